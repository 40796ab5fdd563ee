def m_X6_copy_14  (w : pv_XT) : Option (Int32 × pv_XT) :=
  Option.bind (m_X6_finding (-1000000001) w) fun u_2 => (some (u_2.1, u_2.2))
def m_X6_copy_45  (w : pv_XT) : Option (Int32 × pv_XT) :=
  Option.bind (m_X6_finding (-1000000006) w) fun u_6 => (some (u_6.1, u_6.2))
def m_X6_copy_111  (w : pv_XT) : Option (Int32 × pv_XT) :=
  Option.bind (m_X6_finding (-1000000001) w) fun u_14 => (some (u_14.1, u_14.2))
def m_X6_copy (x1 : Int32) (x2 : Int32) (x3 : Int32) (x4 : Int32) (x5 : Int32) (w : pv_XT) : Option (Int32 × pv_XT) :=
  if (m_X6_isSheet x1) = 0 then (m_X6_copy_14 w) else (if (m_X6_isSheet x3) = 0 then (m_X6_copy_14 w) else (pv_gd x1 4 (if (m_X3_isMissing (w.2.2.2.2.2.1 x1.toNatClampNeg)) = 0 then (pv_gd x3 4 (if (m_X3_isMissing (w.2.2.2.2.2.1 x3.toNatClampNeg)) = 0 then (pv_gd x1 4 (pv_gd x3 4 (if ((w.2.2.2.2.2.1 x1.toNatClampNeg).1) = ((w.2.2.2.2.2.1 x3.toNatClampNeg).1) then (pv_gd x1 4 (if (m_X3_has x2 x5 (w.2.2.2.2.2.1 x1.toNatClampNeg)) = 0 then (m_X6_copy_111 w) else (pv_gd x3 4 (if (m_X3_has x4 x5 (w.2.2.2.2.2.1 x3.toNatClampNeg)) = 0 then (m_X6_copy_111 w) else (pv_gd x1 4 (pv_gd x3 4 (pv_gc x2 x4 x5 40 40 (some (x5, (w.1, w.2.1, w.2.2.1, w.2.2.2.1, w.2.2.2.2.1, (va_up w.2.2.2.2.2.1 x3.toNatClampNeg ((w.2.2.2.2.2.1 x3.toNatClampNeg).1, (w.2.2.2.2.2.1 x3.toNatClampNeg).2.1, va_cpy (w.2.2.2.2.2.1 x1.toNatClampNeg).2.2 (w.2.2.2.2.2.1 x3.toNatClampNeg).2.2 x2.toNatClampNeg x4.toNatClampNeg x5.toNatClampNeg)), w.2.2.2.2.2.2.1, w.2.2.2.2.2.2.2)))))))))) else (Option.bind (m_X6_finding (-1000000003) w) fun u_19 => (some (u_19.1, u_19.2)))))) else (m_X6_copy_45 w))) else (m_X6_copy_45 w))))
abbrev r_X6_copy : Room := { frames := 1, cells := 0, slots := 0, locals := 48 }
set_option maxHeartbeats 4000000 in
set_option maxRecDepth 100000 in
theorem c_X6_copy (l : Launch) (E : pv_E) (a : Nat → Nat) (x1 : Int32) (x2 : Int32) (x3 : Int32) (x4 : Int32) (x5 : Int32) (w0 : pv_XT) (F : Int32 × pv_XT) (hq : m_X6_copy x1 x2 x3 x4 x5 w0 = some F) : pv_RW l E yX6_copy wsX6_copy r_X6_copy (pv_wX E a w0) [.ref (a 0), .int x1, .int x2, .int x3, .int x4, .int x5] (some (.int F.1)) (pv_wX E a F.2) := by
  intro sz
  refine pv_mk (by decide) rfl (Nat.le_of_ble_eq_true rfl) ?_
  intro p e s m args below meth c A hx hb hr hml hown hts hlk hAe hP hD0 hA hE hS ls hl
  have hown : s.vm.findClass RX6 = some m.cls := hown
  have hK := hE.1
  have hD : ∀ w : pv_XT, va_D A (pv_wX E a w) := fun w => pv_Dm (ws := pv_wX E a w0) (ws' := pv_wX E a w) rfl hD0
  have hP : va_P E.1 vwCl (pv_wX E a w0) s.heap := hP
  have lc_51 : (Cond.constant RX6 51 (-1000000001)).before args s = true := hts _ (by decide +kernel)
  have fl_38 : (Cond.fieldLink RX6 38 "ProvinceCards" "sheets" "[LProvinceCards$Sheet;").before args s = true := hts _ (by decide +kernel)
  have lc_224 : (Cond.constant RX6 224 (-1000000006)).before args s = true := hts _ (by decide +kernel)
  have fl_225 : (Cond.fieldLink RX6 225 "ProvinceCards$Sheet" "bits" "I").before args s = true := hts _ (by decide +kernel)
  have fl_214 : (Cond.fieldLink RX6 214 "ProvinceCards$Sheet" "numbers" "[J").before args s = true := hts _ (by decide +kernel)
  have ac_l : (Cond.methodLink RX6 231 arraycopyName).before args s = true := hts _ (by decide +kernel)
  have ac_n : (Cond.native arraycopyName).before args s = true := hts _ (by decide +kernel)
  have ac_s : (Cond.static arraycopyName).before args s = true := hts _ (by decide +kernel)
  have ac_i : (Cond.initialized "java/lang/System").before args s = true := hts _ (by decide +kernel)
  have lc_127 : (Cond.constant RX6 127 (-1000000003)).before args s = true := hts _ (by decide +kernel)
  have i_RX6 : ∀ w ∈ wsX60, w ∈ wsX6_copy := by decide +kernel
  have i_RX3 : ∀ w ∈ wsX30, w ∈ wsX6_copy := by decide +kernel
  have hl : lv_has ls 6 [(0, .ref (a 0)), (1, .int x1), (2, .int x2), (3, .int x3), (4, .int x4), (5, .int x5)] := hl
  have B_14 : ∀  (w : pv_XT) (H : Heap) (locs : List Loc) (ls : Array Slot), va_P E.1 vwCl (pv_wX E a w) H → va_S A s.heap H locs → lv_has ls 6 [(0, .ref (a 0))] → m_X6_copy_14 w = some F → W p l e r_X6_copy s m args below meth c H locs 0 0 (MQ below (pv_Rw E (pv_wX E a w0) sz (some (.int F.1)) ((fun w : pv_XT => pv_wX E a w) F.2)) args s 0 0 A) (F0 m 14 ls []) := by
    intro w H locs ls hP hS hl hq
    refine lv_aload_n (pc := 14) hx hb dX6_copy_14 rfl (lv_at hl 0 rfl) ?_
    refine lv_ldc (pc := 15) hx hb hown lc_51 dX6_copy_15 ?_
    obtain ⟨u_2, hu_2, hq⟩ := pv_bind hq
    refine pv_vRWf (pc := 17) (rest := []) (st1 := [.int u_2.1]) (ws := pv_wX E a w) [.int (-1000000001)] ⟨hx, hb, hml, hown, hts⟩ hE hA hS hP (hD w) (c_X6_finding l E a (-1000000001) w u_2 hu_2) (cwV 1 hts gX6_copy_X6_finding rfl rfl rfl (by decide +kernel) ⟨(Nat.le_of_ble_eq_true rfl), (Nat.le_of_ble_eq_true rfl)⟩) (va_recv hK hP (ci := 4) (q0 := 0) rfl rfl) rfl hl.1 rfl rfl (Nat.le_of_ble_eq_true rfl) dX6_copy_17 ⟨Nat.zero_le _, Nat.zero_le _⟩ (fun H locs hP hS => ?_)
    have hP : va_P E.1 vwCl (pv_wX E a u_2.2) H := hP
    exact pv_riRW (w := fun w : pv_XT => pv_wX E a w) hx hb hr hlk hAe hS hP (Option.some.inj hq) dX6_copy_20
  have B_45 : ∀  (w : pv_XT) (H : Heap) (locs : List Loc) (ls : Array Slot), va_P E.1 vwCl (pv_wX E a w) H → va_S A s.heap H locs → lv_has ls 6 [(0, .ref (a 0))] → m_X6_copy_45 w = some F → W p l e r_X6_copy s m args below meth c H locs 0 0 (MQ below (pv_Rw E (pv_wX E a w0) sz (some (.int F.1)) ((fun w : pv_XT => pv_wX E a w) F.2)) args s 0 0 A) (F0 m 45 ls []) := by
    intro w H locs ls hP hS hl hq
    refine lv_aload_n (pc := 45) hx hb dX6_copy_45 rfl (lv_at hl 0 rfl) ?_
    refine lv_ldc (pc := 46) hx hb hown lc_224 dX6_copy_46 ?_
    obtain ⟨u_6, hu_6, hq⟩ := pv_bind hq
    refine pv_vRWf (pc := 48) (rest := []) (st1 := [.int u_6.1]) (ws := pv_wX E a w) [.int (-1000000006)] ⟨hx, hb, hml, hown, hts⟩ hE hA hS hP (hD w) (c_X6_finding l E a (-1000000006) w u_6 hu_6) (cwV 1 hts gX6_copy_X6_finding rfl rfl rfl (by decide +kernel) ⟨(Nat.le_of_ble_eq_true rfl), (Nat.le_of_ble_eq_true rfl)⟩) (va_recv hK hP (ci := 4) (q0 := 0) rfl rfl) rfl hl.1 rfl rfl (Nat.le_of_ble_eq_true rfl) dX6_copy_48 ⟨Nat.zero_le _, Nat.zero_le _⟩ (fun H locs hP hS => ?_)
    have hP : va_P E.1 vwCl (pv_wX E a u_6.2) H := hP
    exact pv_riRW (w := fun w : pv_XT => pv_wX E a w) hx hb hr hlk hAe hS hP (Option.some.inj hq) dX6_copy_51
  have B_111 : ∀  (w : pv_XT) (H : Heap) (locs : List Loc) (ls : Array Slot), va_P E.1 vwCl (pv_wX E a w) H → va_S A s.heap H locs → lv_has ls 6 [(0, .ref (a 0))] → m_X6_copy_111 w = some F → W p l e r_X6_copy s m args below meth c H locs 0 0 (MQ below (pv_Rw E (pv_wX E a w0) sz (some (.int F.1)) ((fun w : pv_XT => pv_wX E a w) F.2)) args s 0 0 A) (F0 m 111 ls []) := by
    intro w H locs ls hP hS hl hq
    refine lv_aload_n (pc := 111) hx hb dX6_copy_111 rfl (lv_at hl 0 rfl) ?_
    refine lv_ldc (pc := 112) hx hb hown lc_51 dX6_copy_112 ?_
    obtain ⟨u_14, hu_14, hq⟩ := pv_bind hq
    refine pv_vRWf (pc := 114) (rest := []) (st1 := [.int u_14.1]) (ws := pv_wX E a w) [.int (-1000000001)] ⟨hx, hb, hml, hown, hts⟩ hE hA hS hP (hD w) (c_X6_finding l E a (-1000000001) w u_14 hu_14) (cwV 1 hts gX6_copy_X6_finding rfl rfl rfl (by decide +kernel) ⟨(Nat.le_of_ble_eq_true rfl), (Nat.le_of_ble_eq_true rfl)⟩) (va_recv hK hP (ci := 4) (q0 := 0) rfl rfl) rfl hl.1 rfl rfl (Nat.le_of_ble_eq_true rfl) dX6_copy_114 ⟨Nat.zero_le _, Nat.zero_le _⟩ (fun H locs hP hS => ?_)
    have hP : va_P E.1 vwCl (pv_wX E a u_14.2) H := hP
    exact pv_riRW (w := fun w : pv_XT => pv_wX E a w) hx hb hr hlk hAe hS hP (Option.some.inj hq) dX6_copy_117
  suffices M0 : ∀ (H : Heap) (locs : List Loc), va_P E.1 vwCl (pv_wX E a w0) H → va_S A s.heap H locs → W p l e r_X6_copy s m args below meth c H locs 0 0 (MQ below (pv_Rw E (pv_wX E a w0) sz (some (.int F.1)) ((fun w : pv_XT => pv_wX E a w) F.2)) args s 0 0 A) (F0 m 0 ls []) from M0 s.heap [] hP hS
  intro H locs hP hS
  refine lv_iload_n (pc := 0) hx hb dX6_copy_0 rfl (lv_at hl 1 rfl) ?_
  refine pv_sRO (pc := 1) (rest := []) (st1 := [.int (m_X6_isSheet x1)]) (ws := pv_wX E a w0) [.int x1] ⟨hx, hb, hml, hown, hts⟩ hE hA hS hP (hD w0) (c_X6_isSheet l E x1) (va_cwS 1 hts gX6_copy_X6_isSheet rfl rfl rfl (by decide +kernel) ⟨(Nat.le_of_ble_eq_true rfl), (Nat.le_of_ble_eq_true rfl)⟩) [] rfl rfl rfl hl.1 rfl rfl (Nat.le_of_ble_eq_true rfl) dX6_copy_1 ⟨Nat.zero_le _, Nat.zero_le _⟩ (fun locs hS => ?_)
  refine lv_if_eq (pc := 4) (tgt := 14) hx hb dX6_copy_4 (by decide) (fun c_1 => ?_) (fun c_1 => ?_)
  · have hq := pv_pos c_1 hq
    exact B_14 w0 H locs ls hP hS (lv_sub hl [0] rfl) hq
  · have hq := pv_neg c_1 hq
    refine lv_iload_n (pc := 7) hx hb dX6_copy_7 rfl (lv_at hl 3 rfl) ?_
    refine pv_sRO (pc := 8) (rest := []) (st1 := [.int (m_X6_isSheet x3)]) (ws := pv_wX E a w0) [.int x3] ⟨hx, hb, hml, hown, hts⟩ hE hA hS hP (hD w0) (c_X6_isSheet l E x3) (va_cwS 1 hts gX6_copy_X6_isSheet rfl rfl rfl (by decide +kernel) ⟨(Nat.le_of_ble_eq_true rfl), (Nat.le_of_ble_eq_true rfl)⟩) [] rfl rfl rfl hl.1 rfl rfl (Nat.le_of_ble_eq_true rfl) dX6_copy_8 ⟨Nat.zero_le _, Nat.zero_le _⟩ (fun locs hS => ?_)
    refine lv_if_ne (pc := 11) (tgt := 21) hx hb dX6_copy_11 (by decide) (fun c_3 => ?_) (fun c_3 => ?_)
    · have hq := pv_neg c_3 hq
      refine lv_aload_n (pc := 21) hx hb dX6_copy_21 rfl (lv_at hl 0 rfl) ?_
      refine va_get (pc := 22) (D := E.1) (ci := 4) (v := .ref (a 27)) (C := RX6) (T := TX6) (N := 8) hx hb hts i_RX6 hown hK hP 0 rfl rfl 5 (Nat.le_of_ble_eq_true rfl) fl_38 (fun _ h9 => h9) rfl dX6_copy_22 ?_
      refine lv_iload_n (pc := 25) hx hb dX6_copy_25 rfl (lv_at hl 1 rfl) ?_
      obtain ⟨h_4, hq⟩ := pv_gd_some hq
      rcases pv_sh4 h_4 with rfl | rfl | rfl | rfl
      · rw [pv_cl0] at hq
        have hl : lv_has ls 6 [(0, .ref (a 0)), (1, .int 0), (2, .int x2), (3, .int x3), (4, .int x4), (5, .int x5)] := hl
        refine va_aldq (pc := 26) (D := E.1) hx hb hK hP 27 2 rfl rfl h_4 dX6_copy_26 ?_
        refine W.eq (g2 := F0 m 27 ls [.ref (a 28)]) rfl ?_
        refine pv_vRO (pc := 27) (rest := []) (st1 := [.int (m_X3_isMissing (w0.2.2.2.2.2.1 0))]) (ws := pv_wX E a w0) [] ⟨hx, hb, hml, hown, hts⟩ hE hA hS hP (hD w0) (c_X3_isMissing l E (a 28) (a 29) (w0.2.2.2.2.2.1 0)) (cwV 0 hts gX6_copy_X3_isMissing rfl rfl rfl (by decide +kernel) ⟨(Nat.le_of_ble_eq_true rfl), (Nat.le_of_ble_eq_true rfl)⟩) (va_recv hK hP (ci := 1) (q0 := 28) rfl rfl) [28, 29] rfl rfl rfl hl.1 rfl rfl (Nat.le_of_ble_eq_true rfl) dX6_copy_27 ⟨Nat.zero_le _, Nat.zero_le _⟩ (fun locs hS => ?_)
        refine lv_if_ne (pc := 30) (tgt := 45) hx hb dX6_copy_30 (by decide) (fun c_5 => ?_) (fun c_5 => ?_)
        · have hq := pv_neg c_5 hq
          exact B_45 w0 H locs ls hP hS (lv_sub hl [0] rfl) hq
        · have hq := pv_pos c_5 hq
          refine lv_aload_n (pc := 33) hx hb dX6_copy_33 rfl (lv_at hl 0 rfl) ?_
          refine va_get (pc := 34) (D := E.1) (ci := 4) (v := .ref (a 27)) (C := RX6) (T := TX6) (N := 8) hx hb hts i_RX6 hown hK hP 0 rfl rfl 5 (Nat.le_of_ble_eq_true rfl) fl_38 (fun _ h9 => h9) rfl dX6_copy_34 ?_
          refine lv_iload_n (pc := 37) hx hb dX6_copy_37 rfl (lv_at hl 3 rfl) ?_
          obtain ⟨h_7, hq⟩ := pv_gd_some hq
          rcases pv_sh4 h_7 with rfl | rfl | rfl | rfl
          · rw [pv_cl0] at hq
            have hl : lv_has ls 6 [(0, .ref (a 0)), (1, .int 0), (2, .int x2), (3, .int 0), (4, .int x4), (5, .int x5)] := hl
            refine va_aldq (pc := 38) (D := E.1) hx hb hK hP 27 2 rfl rfl h_7 dX6_copy_38 ?_
            refine W.eq (g2 := F0 m 39 ls [.ref (a 28)]) rfl ?_
            refine pv_vRO (pc := 39) (rest := []) (st1 := [.int (m_X3_isMissing (w0.2.2.2.2.2.1 0))]) (ws := pv_wX E a w0) [] ⟨hx, hb, hml, hown, hts⟩ hE hA hS hP (hD w0) (c_X3_isMissing l E (a 28) (a 29) (w0.2.2.2.2.2.1 0)) (cwV 0 hts gX6_copy_X3_isMissing rfl rfl rfl (by decide +kernel) ⟨(Nat.le_of_ble_eq_true rfl), (Nat.le_of_ble_eq_true rfl)⟩) (va_recv hK hP (ci := 1) (q0 := 28) rfl rfl) [28, 29] rfl rfl rfl hl.1 rfl rfl (Nat.le_of_ble_eq_true rfl) dX6_copy_39 ⟨Nat.zero_le _, Nat.zero_le _⟩ (fun locs hS => ?_)
            refine lv_if_eq (pc := 42) (tgt := 52) hx hb dX6_copy_42 (by decide) (fun c_8 => ?_) (fun c_8 => ?_)
            · have hq := pv_pos c_8 hq
              refine lv_aload_n (pc := 52) hx hb dX6_copy_52 rfl (lv_at hl 0 rfl) ?_
              refine va_get (pc := 53) (D := E.1) (ci := 4) (v := .ref (a 27)) (C := RX6) (T := TX6) (N := 8) hx hb hts i_RX6 hown hK hP 0 rfl rfl 5 (Nat.le_of_ble_eq_true rfl) fl_38 (fun _ h9 => h9) rfl dX6_copy_53 ?_
              refine lv_iload_n (pc := 56) hx hb dX6_copy_56 rfl (lv_at hl 1 rfl) ?_
              obtain ⟨h_9, hq⟩ := pv_gd_some hq
              refine va_aldq (pc := 57) (D := E.1) hx hb hK hP 27 2 rfl rfl h_9 dX6_copy_57 ?_
              refine W.eq (g2 := F0 m 58 ls [.ref (a 28)]) rfl ?_
              refine va_get (pc := 58) (D := E.1) (ci := 1) (v := .int ((w0.2.2.2.2.2.1 0).1)) (C := RX3) (T := TX3) (N := 3) hx hb hts i_RX3 hown hK hP 28 rfl rfl 1 (Nat.le_of_ble_eq_true rfl) fl_225 (fun _ h9 => h9) rfl dX6_copy_58 ?_
              refine lv_aload_n (pc := 61) hx hb dX6_copy_61 rfl (lv_at hl 0 rfl) ?_
              refine va_get (pc := 62) (D := E.1) (ci := 4) (v := .ref (a 27)) (C := RX6) (T := TX6) (N := 8) hx hb hts i_RX6 hown hK hP 0 rfl rfl 5 (Nat.le_of_ble_eq_true rfl) fl_38 (fun _ h9 => h9) rfl dX6_copy_62 ?_
              refine lv_iload_n (pc := 65) hx hb dX6_copy_65 rfl (lv_at hl 3 rfl) ?_
              obtain ⟨h_10, hq⟩ := pv_gd_some hq
              refine va_aldq (pc := 66) (D := E.1) hx hb hK hP 27 2 rfl rfl h_10 dX6_copy_66 ?_
              refine W.eq (g2 := F0 m 67 ls [.ref (a 28), .int ((w0.2.2.2.2.2.1 0).1)]) rfl ?_
              refine va_get (pc := 67) (D := E.1) (ci := 1) (v := .int ((w0.2.2.2.2.2.1 0).1)) (C := RX3) (T := TX3) (N := 3) hx hb hts i_RX3 hown hK hP 28 rfl rfl 1 (Nat.le_of_ble_eq_true rfl) fl_225 (fun _ h9 => h9) rfl dX6_copy_67 ?_
              refine lv_icmp_eq (pc := 70) (tgt := 80) hx hb dX6_copy_70 (by decide) (fun c_11 => ?_) (fun c_11 => ?_)
              · have hq := pv_pos c_11 hq
                refine lv_aload_n (pc := 80) hx hb dX6_copy_80 rfl (lv_at hl 0 rfl) ?_
                refine va_get (pc := 81) (D := E.1) (ci := 4) (v := .ref (a 27)) (C := RX6) (T := TX6) (N := 8) hx hb hts i_RX6 hown hK hP 0 rfl rfl 5 (Nat.le_of_ble_eq_true rfl) fl_38 (fun _ h9 => h9) rfl dX6_copy_81 ?_
                refine lv_iload_n (pc := 84) hx hb dX6_copy_84 rfl (lv_at hl 1 rfl) ?_
                obtain ⟨h_12, hq⟩ := pv_gd_some hq
                refine va_aldq (pc := 85) (D := E.1) hx hb hK hP 27 2 rfl rfl h_12 dX6_copy_85 ?_
                refine W.eq (g2 := F0 m 86 ls [.ref (a 28)]) rfl ?_
                refine lv_iload_n (pc := 86) hx hb dX6_copy_86 rfl (lv_at hl 2 rfl) ?_
                refine lv_iload (pc := 87) hx hb dX6_copy_87 (lv_at hl 5 rfl) ?_
                refine pv_vRO (pc := 89) (rest := []) (st1 := [.int (m_X3_has x2 x5 (w0.2.2.2.2.2.1 0))]) (ws := pv_wX E a w0) [.int x2, .int x5] ⟨hx, hb, hml, hown, hts⟩ hE hA hS hP (hD w0) (c_X3_has l E (a 28) (a 29) x2 x5 (w0.2.2.2.2.2.1 0)) (cwV 2 hts gX6_copy_X3_has rfl rfl rfl (by decide +kernel) ⟨(Nat.le_of_ble_eq_true rfl), (Nat.le_of_ble_eq_true rfl)⟩) (va_recv hK hP (ci := 1) (q0 := 28) rfl rfl) [28, 29] rfl rfl rfl hl.1 rfl rfl (Nat.le_of_ble_eq_true rfl) dX6_copy_89 ⟨Nat.zero_le _, Nat.zero_le _⟩ (fun locs hS => ?_)
                refine lv_if_eq (pc := 92) (tgt := 111) hx hb dX6_copy_92 (by decide) (fun c_13 => ?_) (fun c_13 => ?_)
                · have hq := pv_pos c_13 hq
                  exact B_111 w0 H locs ls hP hS (lv_sub hl [0] rfl) hq
                · have hq := pv_neg c_13 hq
                  refine lv_aload_n (pc := 95) hx hb dX6_copy_95 rfl (lv_at hl 0 rfl) ?_
                  refine va_get (pc := 96) (D := E.1) (ci := 4) (v := .ref (a 27)) (C := RX6) (T := TX6) (N := 8) hx hb hts i_RX6 hown hK hP 0 rfl rfl 5 (Nat.le_of_ble_eq_true rfl) fl_38 (fun _ h9 => h9) rfl dX6_copy_96 ?_
                  refine lv_iload_n (pc := 99) hx hb dX6_copy_99 rfl (lv_at hl 3 rfl) ?_
                  obtain ⟨h_15, hq⟩ := pv_gd_some hq
                  refine va_aldq (pc := 100) (D := E.1) hx hb hK hP 27 2 rfl rfl h_15 dX6_copy_100 ?_
                  refine W.eq (g2 := F0 m 101 ls [.ref (a 28)]) rfl ?_
                  refine lv_iload (pc := 101) hx hb dX6_copy_101 (lv_at hl 4 rfl) ?_
                  refine lv_iload (pc := 103) hx hb dX6_copy_103 (lv_at hl 5 rfl) ?_
                  refine pv_vRO (pc := 105) (rest := []) (st1 := [.int (m_X3_has x4 x5 (w0.2.2.2.2.2.1 0))]) (ws := pv_wX E a w0) [.int x4, .int x5] ⟨hx, hb, hml, hown, hts⟩ hE hA hS hP (hD w0) (c_X3_has l E (a 28) (a 29) x4 x5 (w0.2.2.2.2.2.1 0)) (cwV 2 hts gX6_copy_X3_has rfl rfl rfl (by decide +kernel) ⟨(Nat.le_of_ble_eq_true rfl), (Nat.le_of_ble_eq_true rfl)⟩) (va_recv hK hP (ci := 1) (q0 := 28) rfl rfl) [28, 29] rfl rfl rfl hl.1 rfl rfl (Nat.le_of_ble_eq_true rfl) dX6_copy_105 ⟨Nat.zero_le _, Nat.zero_le _⟩ (fun locs hS => ?_)
                  refine lv_if_ne (pc := 108) (tgt := 118) hx hb dX6_copy_108 (by decide) (fun c_16 => ?_) (fun c_16 => ?_)
                  · have hq := pv_neg c_16 hq
                    refine lv_aload_n (pc := 118) hx hb dX6_copy_118 rfl (lv_at hl 0 rfl) ?_
                    refine va_get (pc := 119) (D := E.1) (ci := 4) (v := .ref (a 27)) (C := RX6) (T := TX6) (N := 8) hx hb hts i_RX6 hown hK hP 0 rfl rfl 5 (Nat.le_of_ble_eq_true rfl) fl_38 (fun _ h9 => h9) rfl dX6_copy_119 ?_
                    refine lv_iload_n (pc := 122) hx hb dX6_copy_122 rfl (lv_at hl 1 rfl) ?_
                    obtain ⟨h_17, hq⟩ := pv_gd_some hq
                    refine va_aldq (pc := 123) (D := E.1) hx hb hK hP 27 2 rfl rfl h_17 dX6_copy_123 ?_
                    refine W.eq (g2 := F0 m 124 ls [.ref (a 28)]) rfl ?_
                    refine va_get (pc := 124) (D := E.1) (ci := 1) (v := .ref (a 29)) (C := RX3) (T := TX3) (N := 3) hx hb hts i_RX3 hown hK hP 28 rfl rfl 0 (Nat.le_of_ble_eq_true rfl) fl_214 (fun _ h9 => h9) rfl dX6_copy_124 ?_
                    refine lv_iload_n (pc := 127) hx hb dX6_copy_127 rfl (lv_at hl 2 rfl) ?_
                    refine lv_aload_n (pc := 128) hx hb dX6_copy_128 rfl (lv_at hl 0 rfl) ?_
                    refine va_get (pc := 129) (D := E.1) (ci := 4) (v := .ref (a 27)) (C := RX6) (T := TX6) (N := 8) hx hb hts i_RX6 hown hK hP 0 rfl rfl 5 (Nat.le_of_ble_eq_true rfl) fl_38 (fun _ h9 => h9) rfl dX6_copy_129 ?_
                    refine lv_iload_n (pc := 132) hx hb dX6_copy_132 rfl (lv_at hl 3 rfl) ?_
                    obtain ⟨h_18, hq⟩ := pv_gd_some hq
                    refine va_aldq (pc := 133) (D := E.1) hx hb hK hP 27 2 rfl rfl h_18 dX6_copy_133 ?_
                    refine W.eq (g2 := F0 m 134 ls [.ref (a 28), .int x2, .ref (a 29)]) rfl ?_
                    refine va_get (pc := 134) (D := E.1) (ci := 1) (v := .ref (a 29)) (C := RX3) (T := TX3) (N := 3) hx hb hts i_RX3 hown hK hP 28 rfl rfl 0 (Nat.le_of_ble_eq_true rfl) fl_214 (fun _ h9 => h9) rfl dX6_copy_134 ?_
                    refine lv_iload (pc := 137) hx hb dX6_copy_137 (lv_at hl 4 rfl) ?_
                    refine lv_iload (pc := 139) hx hb dX6_copy_139 (lv_at hl 5 rfl) ?_
                    obtain ⟨h_19, hq⟩ := pv_gc_some hq
                    refine va_copyl (pc := 141) (D := E.1) hx hb (by rw [hml]; exact hl.1.symm) hown ac_l ac_n ac_s ac_i hK hP (hD w0) hS 29 29 1 1 rfl rfl rfl rfl rfl h_19.1 h_19.2.1 h_19.2.2.1 h_19.2.2.2.1 h_19.2.2.2.2 (fun _ _ => rfl) (Nat.le_of_ble_eq_true rfl) (by decide) dX6_copy_141 (fun H locs hP _ hS => ?_)
                    have hP : va_P E.1 vwCl (pv_wX E a (w0.1, w0.2.1, w0.2.2.1, w0.2.2.2.1, w0.2.2.2.2.1, (va_up w0.2.2.2.2.2.1 0 ((w0.2.2.2.2.2.1 0).1, (w0.2.2.2.2.2.1 0).2.1, (va_cpy (w0.2.2.2.2.2.1 0).2.2 (w0.2.2.2.2.2.1 0).2.2 x2.toNatClampNeg x4.toNatClampNeg x5.toNatClampNeg))), w0.2.2.2.2.2.2.1, w0.2.2.2.2.2.2.2)) H := hP
                    refine lv_iload (pc := 144) hx hb dX6_copy_144 (lv_at hl 5 rfl) ?_
                    exact pv_riRW (w := fun w : pv_XT => pv_wX E a w) hx hb hr hlk hAe hS hP (Option.some.inj hq) dX6_copy_146
                  · have hq := pv_pos c_16 hq
                    exact B_111 w0 H locs ls hP hS (lv_sub hl [0] rfl) hq
              · have hq := pv_neg c_11 hq
                refine lv_aload_n (pc := 73) hx hb dX6_copy_73 rfl (lv_at hl 0 rfl) ?_
                refine lv_ldc (pc := 74) hx hb hown lc_127 dX6_copy_74 ?_
                obtain ⟨u_20, hu_20, hq⟩ := pv_bind hq
                refine pv_vRWf (pc := 76) (rest := []) (st1 := [.int u_20.1]) (ws := pv_wX E a w0) [.int (-1000000003)] ⟨hx, hb, hml, hown, hts⟩ hE hA hS hP (hD w0) (c_X6_finding l E a (-1000000003) w0 u_20 hu_20) (cwV 1 hts gX6_copy_X6_finding rfl rfl rfl (by decide +kernel) ⟨(Nat.le_of_ble_eq_true rfl), (Nat.le_of_ble_eq_true rfl)⟩) (va_recv hK hP (ci := 4) (q0 := 0) rfl rfl) rfl hl.1 rfl rfl (Nat.le_of_ble_eq_true rfl) dX6_copy_76 ⟨Nat.zero_le _, Nat.zero_le _⟩ (fun H locs hP hS => ?_)
                have hP : va_P E.1 vwCl (pv_wX E a u_20.2) H := hP
                exact pv_riRW (w := fun w : pv_XT => pv_wX E a w) hx hb hr hlk hAe hS hP (Option.some.inj hq) dX6_copy_79
            · have hq := pv_neg c_8 hq
              exact B_45 w0 H locs ls hP hS (lv_sub hl [0] rfl) hq
          · rw [pv_cl1] at hq
            have hl : lv_has ls 6 [(0, .ref (a 0)), (1, .int 0), (2, .int x2), (3, .int 1), (4, .int x4), (5, .int x5)] := hl
            refine va_aldq (pc := 38) (D := E.1) hx hb hK hP 27 2 rfl rfl h_7 dX6_copy_38 ?_
            refine W.eq (g2 := F0 m 39 ls [.ref (a 30)]) rfl ?_
            refine pv_vRO (pc := 39) (rest := []) (st1 := [.int (m_X3_isMissing (w0.2.2.2.2.2.1 1))]) (ws := pv_wX E a w0) [] ⟨hx, hb, hml, hown, hts⟩ hE hA hS hP (hD w0) (c_X3_isMissing l E (a 30) (a 31) (w0.2.2.2.2.2.1 1)) (cwV 0 hts gX6_copy_X3_isMissing rfl rfl rfl (by decide +kernel) ⟨(Nat.le_of_ble_eq_true rfl), (Nat.le_of_ble_eq_true rfl)⟩) (va_recv hK hP (ci := 1) (q0 := 30) rfl rfl) [30, 31] rfl rfl rfl hl.1 rfl rfl (Nat.le_of_ble_eq_true rfl) dX6_copy_39 ⟨Nat.zero_le _, Nat.zero_le _⟩ (fun locs hS => ?_)
            refine lv_if_eq (pc := 42) (tgt := 52) hx hb dX6_copy_42 (by decide) (fun c_21 => ?_) (fun c_21 => ?_)
            · have hq := pv_pos c_21 hq
              refine lv_aload_n (pc := 52) hx hb dX6_copy_52 rfl (lv_at hl 0 rfl) ?_
              refine va_get (pc := 53) (D := E.1) (ci := 4) (v := .ref (a 27)) (C := RX6) (T := TX6) (N := 8) hx hb hts i_RX6 hown hK hP 0 rfl rfl 5 (Nat.le_of_ble_eq_true rfl) fl_38 (fun _ h9 => h9) rfl dX6_copy_53 ?_
              refine lv_iload_n (pc := 56) hx hb dX6_copy_56 rfl (lv_at hl 1 rfl) ?_
              obtain ⟨h_22, hq⟩ := pv_gd_some hq
              refine va_aldq (pc := 57) (D := E.1) hx hb hK hP 27 2 rfl rfl h_22 dX6_copy_57 ?_
              refine W.eq (g2 := F0 m 58 ls [.ref (a 28)]) rfl ?_
              refine va_get (pc := 58) (D := E.1) (ci := 1) (v := .int ((w0.2.2.2.2.2.1 0).1)) (C := RX3) (T := TX3) (N := 3) hx hb hts i_RX3 hown hK hP 28 rfl rfl 1 (Nat.le_of_ble_eq_true rfl) fl_225 (fun _ h9 => h9) rfl dX6_copy_58 ?_
              refine lv_aload_n (pc := 61) hx hb dX6_copy_61 rfl (lv_at hl 0 rfl) ?_
              refine va_get (pc := 62) (D := E.1) (ci := 4) (v := .ref (a 27)) (C := RX6) (T := TX6) (N := 8) hx hb hts i_RX6 hown hK hP 0 rfl rfl 5 (Nat.le_of_ble_eq_true rfl) fl_38 (fun _ h9 => h9) rfl dX6_copy_62 ?_
              refine lv_iload_n (pc := 65) hx hb dX6_copy_65 rfl (lv_at hl 3 rfl) ?_
              obtain ⟨h_23, hq⟩ := pv_gd_some hq
              refine va_aldq (pc := 66) (D := E.1) hx hb hK hP 27 2 rfl rfl h_23 dX6_copy_66 ?_
              refine W.eq (g2 := F0 m 67 ls [.ref (a 30), .int ((w0.2.2.2.2.2.1 0).1)]) rfl ?_
              refine va_get (pc := 67) (D := E.1) (ci := 1) (v := .int ((w0.2.2.2.2.2.1 1).1)) (C := RX3) (T := TX3) (N := 3) hx hb hts i_RX3 hown hK hP 30 rfl rfl 1 (Nat.le_of_ble_eq_true rfl) fl_225 (fun _ h9 => h9) rfl dX6_copy_67 ?_
              refine lv_icmp_eq (pc := 70) (tgt := 80) hx hb dX6_copy_70 (by decide) (fun c_24 => ?_) (fun c_24 => ?_)
              · have hq := pv_pos c_24 hq
                refine lv_aload_n (pc := 80) hx hb dX6_copy_80 rfl (lv_at hl 0 rfl) ?_
                refine va_get (pc := 81) (D := E.1) (ci := 4) (v := .ref (a 27)) (C := RX6) (T := TX6) (N := 8) hx hb hts i_RX6 hown hK hP 0 rfl rfl 5 (Nat.le_of_ble_eq_true rfl) fl_38 (fun _ h9 => h9) rfl dX6_copy_81 ?_
                refine lv_iload_n (pc := 84) hx hb dX6_copy_84 rfl (lv_at hl 1 rfl) ?_
                obtain ⟨h_25, hq⟩ := pv_gd_some hq
                refine va_aldq (pc := 85) (D := E.1) hx hb hK hP 27 2 rfl rfl h_25 dX6_copy_85 ?_
                refine W.eq (g2 := F0 m 86 ls [.ref (a 28)]) rfl ?_
                refine lv_iload_n (pc := 86) hx hb dX6_copy_86 rfl (lv_at hl 2 rfl) ?_
                refine lv_iload (pc := 87) hx hb dX6_copy_87 (lv_at hl 5 rfl) ?_
                refine pv_vRO (pc := 89) (rest := []) (st1 := [.int (m_X3_has x2 x5 (w0.2.2.2.2.2.1 0))]) (ws := pv_wX E a w0) [.int x2, .int x5] ⟨hx, hb, hml, hown, hts⟩ hE hA hS hP (hD w0) (c_X3_has l E (a 28) (a 29) x2 x5 (w0.2.2.2.2.2.1 0)) (cwV 2 hts gX6_copy_X3_has rfl rfl rfl (by decide +kernel) ⟨(Nat.le_of_ble_eq_true rfl), (Nat.le_of_ble_eq_true rfl)⟩) (va_recv hK hP (ci := 1) (q0 := 28) rfl rfl) [28, 29] rfl rfl rfl hl.1 rfl rfl (Nat.le_of_ble_eq_true rfl) dX6_copy_89 ⟨Nat.zero_le _, Nat.zero_le _⟩ (fun locs hS => ?_)
                refine lv_if_eq (pc := 92) (tgt := 111) hx hb dX6_copy_92 (by decide) (fun c_26 => ?_) (fun c_26 => ?_)
                · have hq := pv_pos c_26 hq
                  exact B_111 w0 H locs ls hP hS (lv_sub hl [0] rfl) hq
                · have hq := pv_neg c_26 hq
                  refine lv_aload_n (pc := 95) hx hb dX6_copy_95 rfl (lv_at hl 0 rfl) ?_
                  refine va_get (pc := 96) (D := E.1) (ci := 4) (v := .ref (a 27)) (C := RX6) (T := TX6) (N := 8) hx hb hts i_RX6 hown hK hP 0 rfl rfl 5 (Nat.le_of_ble_eq_true rfl) fl_38 (fun _ h9 => h9) rfl dX6_copy_96 ?_
                  refine lv_iload_n (pc := 99) hx hb dX6_copy_99 rfl (lv_at hl 3 rfl) ?_
                  obtain ⟨h_27, hq⟩ := pv_gd_some hq
                  refine va_aldq (pc := 100) (D := E.1) hx hb hK hP 27 2 rfl rfl h_27 dX6_copy_100 ?_
                  refine W.eq (g2 := F0 m 101 ls [.ref (a 30)]) rfl ?_
                  refine lv_iload (pc := 101) hx hb dX6_copy_101 (lv_at hl 4 rfl) ?_
                  refine lv_iload (pc := 103) hx hb dX6_copy_103 (lv_at hl 5 rfl) ?_
                  refine pv_vRO (pc := 105) (rest := []) (st1 := [.int (m_X3_has x4 x5 (w0.2.2.2.2.2.1 1))]) (ws := pv_wX E a w0) [.int x4, .int x5] ⟨hx, hb, hml, hown, hts⟩ hE hA hS hP (hD w0) (c_X3_has l E (a 30) (a 31) x4 x5 (w0.2.2.2.2.2.1 1)) (cwV 2 hts gX6_copy_X3_has rfl rfl rfl (by decide +kernel) ⟨(Nat.le_of_ble_eq_true rfl), (Nat.le_of_ble_eq_true rfl)⟩) (va_recv hK hP (ci := 1) (q0 := 30) rfl rfl) [30, 31] rfl rfl rfl hl.1 rfl rfl (Nat.le_of_ble_eq_true rfl) dX6_copy_105 ⟨Nat.zero_le _, Nat.zero_le _⟩ (fun locs hS => ?_)
                  refine lv_if_ne (pc := 108) (tgt := 118) hx hb dX6_copy_108 (by decide) (fun c_28 => ?_) (fun c_28 => ?_)
                  · have hq := pv_neg c_28 hq
                    refine lv_aload_n (pc := 118) hx hb dX6_copy_118 rfl (lv_at hl 0 rfl) ?_
                    refine va_get (pc := 119) (D := E.1) (ci := 4) (v := .ref (a 27)) (C := RX6) (T := TX6) (N := 8) hx hb hts i_RX6 hown hK hP 0 rfl rfl 5 (Nat.le_of_ble_eq_true rfl) fl_38 (fun _ h9 => h9) rfl dX6_copy_119 ?_
                    refine lv_iload_n (pc := 122) hx hb dX6_copy_122 rfl (lv_at hl 1 rfl) ?_
                    obtain ⟨h_29, hq⟩ := pv_gd_some hq
                    refine va_aldq (pc := 123) (D := E.1) hx hb hK hP 27 2 rfl rfl h_29 dX6_copy_123 ?_
                    refine W.eq (g2 := F0 m 124 ls [.ref (a 28)]) rfl ?_
                    refine va_get (pc := 124) (D := E.1) (ci := 1) (v := .ref (a 29)) (C := RX3) (T := TX3) (N := 3) hx hb hts i_RX3 hown hK hP 28 rfl rfl 0 (Nat.le_of_ble_eq_true rfl) fl_214 (fun _ h9 => h9) rfl dX6_copy_124 ?_
                    refine lv_iload_n (pc := 127) hx hb dX6_copy_127 rfl (lv_at hl 2 rfl) ?_
                    refine lv_aload_n (pc := 128) hx hb dX6_copy_128 rfl (lv_at hl 0 rfl) ?_
                    refine va_get (pc := 129) (D := E.1) (ci := 4) (v := .ref (a 27)) (C := RX6) (T := TX6) (N := 8) hx hb hts i_RX6 hown hK hP 0 rfl rfl 5 (Nat.le_of_ble_eq_true rfl) fl_38 (fun _ h9 => h9) rfl dX6_copy_129 ?_
                    refine lv_iload_n (pc := 132) hx hb dX6_copy_132 rfl (lv_at hl 3 rfl) ?_
                    obtain ⟨h_30, hq⟩ := pv_gd_some hq
                    refine va_aldq (pc := 133) (D := E.1) hx hb hK hP 27 2 rfl rfl h_30 dX6_copy_133 ?_
                    refine W.eq (g2 := F0 m 134 ls [.ref (a 30), .int x2, .ref (a 29)]) rfl ?_
                    refine va_get (pc := 134) (D := E.1) (ci := 1) (v := .ref (a 31)) (C := RX3) (T := TX3) (N := 3) hx hb hts i_RX3 hown hK hP 30 rfl rfl 0 (Nat.le_of_ble_eq_true rfl) fl_214 (fun _ h9 => h9) rfl dX6_copy_134 ?_
                    refine lv_iload (pc := 137) hx hb dX6_copy_137 (lv_at hl 4 rfl) ?_
                    refine lv_iload (pc := 139) hx hb dX6_copy_139 (lv_at hl 5 rfl) ?_
                    obtain ⟨h_31, hq⟩ := pv_gc_some hq
                    refine va_copyl (pc := 141) (D := E.1) hx hb (by rw [hml]; exact hl.1.symm) hown ac_l ac_n ac_s ac_i hK hP (hD w0) hS 29 31 1 1 rfl rfl rfl rfl rfl h_31.1 h_31.2.1 h_31.2.2.1 h_31.2.2.2.1 h_31.2.2.2.2 (fun _ _ => rfl) (Nat.le_of_ble_eq_true rfl) (by decide) dX6_copy_141 (fun H locs hP _ hS => ?_)
                    have hP : va_P E.1 vwCl (pv_wX E a (w0.1, w0.2.1, w0.2.2.1, w0.2.2.2.1, w0.2.2.2.2.1, (va_up w0.2.2.2.2.2.1 1 ((w0.2.2.2.2.2.1 1).1, (w0.2.2.2.2.2.1 1).2.1, (va_cpy (w0.2.2.2.2.2.1 0).2.2 (w0.2.2.2.2.2.1 1).2.2 x2.toNatClampNeg x4.toNatClampNeg x5.toNatClampNeg))), w0.2.2.2.2.2.2.1, w0.2.2.2.2.2.2.2)) H := hP
                    refine lv_iload (pc := 144) hx hb dX6_copy_144 (lv_at hl 5 rfl) ?_
                    exact pv_riRW (w := fun w : pv_XT => pv_wX E a w) hx hb hr hlk hAe hS hP (Option.some.inj hq) dX6_copy_146
                  · have hq := pv_pos c_28 hq
                    exact B_111 w0 H locs ls hP hS (lv_sub hl [0] rfl) hq
              · have hq := pv_neg c_24 hq
                refine lv_aload_n (pc := 73) hx hb dX6_copy_73 rfl (lv_at hl 0 rfl) ?_
                refine lv_ldc (pc := 74) hx hb hown lc_127 dX6_copy_74 ?_
                obtain ⟨u_32, hu_32, hq⟩ := pv_bind hq
                refine pv_vRWf (pc := 76) (rest := []) (st1 := [.int u_32.1]) (ws := pv_wX E a w0) [.int (-1000000003)] ⟨hx, hb, hml, hown, hts⟩ hE hA hS hP (hD w0) (c_X6_finding l E a (-1000000003) w0 u_32 hu_32) (cwV 1 hts gX6_copy_X6_finding rfl rfl rfl (by decide +kernel) ⟨(Nat.le_of_ble_eq_true rfl), (Nat.le_of_ble_eq_true rfl)⟩) (va_recv hK hP (ci := 4) (q0 := 0) rfl rfl) rfl hl.1 rfl rfl (Nat.le_of_ble_eq_true rfl) dX6_copy_76 ⟨Nat.zero_le _, Nat.zero_le _⟩ (fun H locs hP hS => ?_)
                have hP : va_P E.1 vwCl (pv_wX E a u_32.2) H := hP
                exact pv_riRW (w := fun w : pv_XT => pv_wX E a w) hx hb hr hlk hAe hS hP (Option.some.inj hq) dX6_copy_79
            · have hq := pv_neg c_21 hq
              exact B_45 w0 H locs ls hP hS (lv_sub hl [0] rfl) hq
          · rw [pv_cl2] at hq
            have hl : lv_has ls 6 [(0, .ref (a 0)), (1, .int 0), (2, .int x2), (3, .int 2), (4, .int x4), (5, .int x5)] := hl
            refine va_aldq (pc := 38) (D := E.1) hx hb hK hP 27 2 rfl rfl h_7 dX6_copy_38 ?_
            refine W.eq (g2 := F0 m 39 ls [.ref (a 32)]) rfl ?_
            refine pv_vRO (pc := 39) (rest := []) (st1 := [.int (m_X3_isMissing (w0.2.2.2.2.2.1 2))]) (ws := pv_wX E a w0) [] ⟨hx, hb, hml, hown, hts⟩ hE hA hS hP (hD w0) (c_X3_isMissing l E (a 32) (a 33) (w0.2.2.2.2.2.1 2)) (cwV 0 hts gX6_copy_X3_isMissing rfl rfl rfl (by decide +kernel) ⟨(Nat.le_of_ble_eq_true rfl), (Nat.le_of_ble_eq_true rfl)⟩) (va_recv hK hP (ci := 1) (q0 := 32) rfl rfl) [32, 33] rfl rfl rfl hl.1 rfl rfl (Nat.le_of_ble_eq_true rfl) dX6_copy_39 ⟨Nat.zero_le _, Nat.zero_le _⟩ (fun locs hS => ?_)
            refine lv_if_eq (pc := 42) (tgt := 52) hx hb dX6_copy_42 (by decide) (fun c_33 => ?_) (fun c_33 => ?_)
            · have hq := pv_pos c_33 hq
              refine lv_aload_n (pc := 52) hx hb dX6_copy_52 rfl (lv_at hl 0 rfl) ?_
              refine va_get (pc := 53) (D := E.1) (ci := 4) (v := .ref (a 27)) (C := RX6) (T := TX6) (N := 8) hx hb hts i_RX6 hown hK hP 0 rfl rfl 5 (Nat.le_of_ble_eq_true rfl) fl_38 (fun _ h9 => h9) rfl dX6_copy_53 ?_
              refine lv_iload_n (pc := 56) hx hb dX6_copy_56 rfl (lv_at hl 1 rfl) ?_
              obtain ⟨h_34, hq⟩ := pv_gd_some hq
              refine va_aldq (pc := 57) (D := E.1) hx hb hK hP 27 2 rfl rfl h_34 dX6_copy_57 ?_
              refine W.eq (g2 := F0 m 58 ls [.ref (a 28)]) rfl ?_
              refine va_get (pc := 58) (D := E.1) (ci := 1) (v := .int ((w0.2.2.2.2.2.1 0).1)) (C := RX3) (T := TX3) (N := 3) hx hb hts i_RX3 hown hK hP 28 rfl rfl 1 (Nat.le_of_ble_eq_true rfl) fl_225 (fun _ h9 => h9) rfl dX6_copy_58 ?_
              refine lv_aload_n (pc := 61) hx hb dX6_copy_61 rfl (lv_at hl 0 rfl) ?_
              refine va_get (pc := 62) (D := E.1) (ci := 4) (v := .ref (a 27)) (C := RX6) (T := TX6) (N := 8) hx hb hts i_RX6 hown hK hP 0 rfl rfl 5 (Nat.le_of_ble_eq_true rfl) fl_38 (fun _ h9 => h9) rfl dX6_copy_62 ?_
              refine lv_iload_n (pc := 65) hx hb dX6_copy_65 rfl (lv_at hl 3 rfl) ?_
              obtain ⟨h_35, hq⟩ := pv_gd_some hq
              refine va_aldq (pc := 66) (D := E.1) hx hb hK hP 27 2 rfl rfl h_35 dX6_copy_66 ?_
              refine W.eq (g2 := F0 m 67 ls [.ref (a 32), .int ((w0.2.2.2.2.2.1 0).1)]) rfl ?_
              refine va_get (pc := 67) (D := E.1) (ci := 1) (v := .int ((w0.2.2.2.2.2.1 2).1)) (C := RX3) (T := TX3) (N := 3) hx hb hts i_RX3 hown hK hP 32 rfl rfl 1 (Nat.le_of_ble_eq_true rfl) fl_225 (fun _ h9 => h9) rfl dX6_copy_67 ?_
              refine lv_icmp_eq (pc := 70) (tgt := 80) hx hb dX6_copy_70 (by decide) (fun c_36 => ?_) (fun c_36 => ?_)
              · have hq := pv_pos c_36 hq
                refine lv_aload_n (pc := 80) hx hb dX6_copy_80 rfl (lv_at hl 0 rfl) ?_
                refine va_get (pc := 81) (D := E.1) (ci := 4) (v := .ref (a 27)) (C := RX6) (T := TX6) (N := 8) hx hb hts i_RX6 hown hK hP 0 rfl rfl 5 (Nat.le_of_ble_eq_true rfl) fl_38 (fun _ h9 => h9) rfl dX6_copy_81 ?_
                refine lv_iload_n (pc := 84) hx hb dX6_copy_84 rfl (lv_at hl 1 rfl) ?_
                obtain ⟨h_37, hq⟩ := pv_gd_some hq
                refine va_aldq (pc := 85) (D := E.1) hx hb hK hP 27 2 rfl rfl h_37 dX6_copy_85 ?_
                refine W.eq (g2 := F0 m 86 ls [.ref (a 28)]) rfl ?_
                refine lv_iload_n (pc := 86) hx hb dX6_copy_86 rfl (lv_at hl 2 rfl) ?_
                refine lv_iload (pc := 87) hx hb dX6_copy_87 (lv_at hl 5 rfl) ?_
                refine pv_vRO (pc := 89) (rest := []) (st1 := [.int (m_X3_has x2 x5 (w0.2.2.2.2.2.1 0))]) (ws := pv_wX E a w0) [.int x2, .int x5] ⟨hx, hb, hml, hown, hts⟩ hE hA hS hP (hD w0) (c_X3_has l E (a 28) (a 29) x2 x5 (w0.2.2.2.2.2.1 0)) (cwV 2 hts gX6_copy_X3_has rfl rfl rfl (by decide +kernel) ⟨(Nat.le_of_ble_eq_true rfl), (Nat.le_of_ble_eq_true rfl)⟩) (va_recv hK hP (ci := 1) (q0 := 28) rfl rfl) [28, 29] rfl rfl rfl hl.1 rfl rfl (Nat.le_of_ble_eq_true rfl) dX6_copy_89 ⟨Nat.zero_le _, Nat.zero_le _⟩ (fun locs hS => ?_)
                refine lv_if_eq (pc := 92) (tgt := 111) hx hb dX6_copy_92 (by decide) (fun c_38 => ?_) (fun c_38 => ?_)
                · have hq := pv_pos c_38 hq
                  exact B_111 w0 H locs ls hP hS (lv_sub hl [0] rfl) hq
                · have hq := pv_neg c_38 hq
                  refine lv_aload_n (pc := 95) hx hb dX6_copy_95 rfl (lv_at hl 0 rfl) ?_
                  refine va_get (pc := 96) (D := E.1) (ci := 4) (v := .ref (a 27)) (C := RX6) (T := TX6) (N := 8) hx hb hts i_RX6 hown hK hP 0 rfl rfl 5 (Nat.le_of_ble_eq_true rfl) fl_38 (fun _ h9 => h9) rfl dX6_copy_96 ?_
                  refine lv_iload_n (pc := 99) hx hb dX6_copy_99 rfl (lv_at hl 3 rfl) ?_
                  obtain ⟨h_39, hq⟩ := pv_gd_some hq
                  refine va_aldq (pc := 100) (D := E.1) hx hb hK hP 27 2 rfl rfl h_39 dX6_copy_100 ?_
                  refine W.eq (g2 := F0 m 101 ls [.ref (a 32)]) rfl ?_
                  refine lv_iload (pc := 101) hx hb dX6_copy_101 (lv_at hl 4 rfl) ?_
                  refine lv_iload (pc := 103) hx hb dX6_copy_103 (lv_at hl 5 rfl) ?_
                  refine pv_vRO (pc := 105) (rest := []) (st1 := [.int (m_X3_has x4 x5 (w0.2.2.2.2.2.1 2))]) (ws := pv_wX E a w0) [.int x4, .int x5] ⟨hx, hb, hml, hown, hts⟩ hE hA hS hP (hD w0) (c_X3_has l E (a 32) (a 33) x4 x5 (w0.2.2.2.2.2.1 2)) (cwV 2 hts gX6_copy_X3_has rfl rfl rfl (by decide +kernel) ⟨(Nat.le_of_ble_eq_true rfl), (Nat.le_of_ble_eq_true rfl)⟩) (va_recv hK hP (ci := 1) (q0 := 32) rfl rfl) [32, 33] rfl rfl rfl hl.1 rfl rfl (Nat.le_of_ble_eq_true rfl) dX6_copy_105 ⟨Nat.zero_le _, Nat.zero_le _⟩ (fun locs hS => ?_)
                  refine lv_if_ne (pc := 108) (tgt := 118) hx hb dX6_copy_108 (by decide) (fun c_40 => ?_) (fun c_40 => ?_)
                  · have hq := pv_neg c_40 hq
                    refine lv_aload_n (pc := 118) hx hb dX6_copy_118 rfl (lv_at hl 0 rfl) ?_
                    refine va_get (pc := 119) (D := E.1) (ci := 4) (v := .ref (a 27)) (C := RX6) (T := TX6) (N := 8) hx hb hts i_RX6 hown hK hP 0 rfl rfl 5 (Nat.le_of_ble_eq_true rfl) fl_38 (fun _ h9 => h9) rfl dX6_copy_119 ?_
                    refine lv_iload_n (pc := 122) hx hb dX6_copy_122 rfl (lv_at hl 1 rfl) ?_
                    obtain ⟨h_41, hq⟩ := pv_gd_some hq
                    refine va_aldq (pc := 123) (D := E.1) hx hb hK hP 27 2 rfl rfl h_41 dX6_copy_123 ?_
                    refine W.eq (g2 := F0 m 124 ls [.ref (a 28)]) rfl ?_
                    refine va_get (pc := 124) (D := E.1) (ci := 1) (v := .ref (a 29)) (C := RX3) (T := TX3) (N := 3) hx hb hts i_RX3 hown hK hP 28 rfl rfl 0 (Nat.le_of_ble_eq_true rfl) fl_214 (fun _ h9 => h9) rfl dX6_copy_124 ?_
                    refine lv_iload_n (pc := 127) hx hb dX6_copy_127 rfl (lv_at hl 2 rfl) ?_
                    refine lv_aload_n (pc := 128) hx hb dX6_copy_128 rfl (lv_at hl 0 rfl) ?_
                    refine va_get (pc := 129) (D := E.1) (ci := 4) (v := .ref (a 27)) (C := RX6) (T := TX6) (N := 8) hx hb hts i_RX6 hown hK hP 0 rfl rfl 5 (Nat.le_of_ble_eq_true rfl) fl_38 (fun _ h9 => h9) rfl dX6_copy_129 ?_
                    refine lv_iload_n (pc := 132) hx hb dX6_copy_132 rfl (lv_at hl 3 rfl) ?_
                    obtain ⟨h_42, hq⟩ := pv_gd_some hq
                    refine va_aldq (pc := 133) (D := E.1) hx hb hK hP 27 2 rfl rfl h_42 dX6_copy_133 ?_
                    refine W.eq (g2 := F0 m 134 ls [.ref (a 32), .int x2, .ref (a 29)]) rfl ?_
                    refine va_get (pc := 134) (D := E.1) (ci := 1) (v := .ref (a 33)) (C := RX3) (T := TX3) (N := 3) hx hb hts i_RX3 hown hK hP 32 rfl rfl 0 (Nat.le_of_ble_eq_true rfl) fl_214 (fun _ h9 => h9) rfl dX6_copy_134 ?_
                    refine lv_iload (pc := 137) hx hb dX6_copy_137 (lv_at hl 4 rfl) ?_
                    refine lv_iload (pc := 139) hx hb dX6_copy_139 (lv_at hl 5 rfl) ?_
                    obtain ⟨h_43, hq⟩ := pv_gc_some hq
                    refine va_copyl (pc := 141) (D := E.1) hx hb (by rw [hml]; exact hl.1.symm) hown ac_l ac_n ac_s ac_i hK hP (hD w0) hS 29 33 1 1 rfl rfl rfl rfl rfl h_43.1 h_43.2.1 h_43.2.2.1 h_43.2.2.2.1 h_43.2.2.2.2 (fun _ _ => rfl) (Nat.le_of_ble_eq_true rfl) (by decide) dX6_copy_141 (fun H locs hP _ hS => ?_)
                    have hP : va_P E.1 vwCl (pv_wX E a (w0.1, w0.2.1, w0.2.2.1, w0.2.2.2.1, w0.2.2.2.2.1, (va_up w0.2.2.2.2.2.1 2 ((w0.2.2.2.2.2.1 2).1, (w0.2.2.2.2.2.1 2).2.1, (va_cpy (w0.2.2.2.2.2.1 0).2.2 (w0.2.2.2.2.2.1 2).2.2 x2.toNatClampNeg x4.toNatClampNeg x5.toNatClampNeg))), w0.2.2.2.2.2.2.1, w0.2.2.2.2.2.2.2)) H := hP
                    refine lv_iload (pc := 144) hx hb dX6_copy_144 (lv_at hl 5 rfl) ?_
                    exact pv_riRW (w := fun w : pv_XT => pv_wX E a w) hx hb hr hlk hAe hS hP (Option.some.inj hq) dX6_copy_146
                  · have hq := pv_pos c_40 hq
                    exact B_111 w0 H locs ls hP hS (lv_sub hl [0] rfl) hq
              · have hq := pv_neg c_36 hq
                refine lv_aload_n (pc := 73) hx hb dX6_copy_73 rfl (lv_at hl 0 rfl) ?_
                refine lv_ldc (pc := 74) hx hb hown lc_127 dX6_copy_74 ?_
                obtain ⟨u_44, hu_44, hq⟩ := pv_bind hq
                refine pv_vRWf (pc := 76) (rest := []) (st1 := [.int u_44.1]) (ws := pv_wX E a w0) [.int (-1000000003)] ⟨hx, hb, hml, hown, hts⟩ hE hA hS hP (hD w0) (c_X6_finding l E a (-1000000003) w0 u_44 hu_44) (cwV 1 hts gX6_copy_X6_finding rfl rfl rfl (by decide +kernel) ⟨(Nat.le_of_ble_eq_true rfl), (Nat.le_of_ble_eq_true rfl)⟩) (va_recv hK hP (ci := 4) (q0 := 0) rfl rfl) rfl hl.1 rfl rfl (Nat.le_of_ble_eq_true rfl) dX6_copy_76 ⟨Nat.zero_le _, Nat.zero_le _⟩ (fun H locs hP hS => ?_)
                have hP : va_P E.1 vwCl (pv_wX E a u_44.2) H := hP
                exact pv_riRW (w := fun w : pv_XT => pv_wX E a w) hx hb hr hlk hAe hS hP (Option.some.inj hq) dX6_copy_79
            · have hq := pv_neg c_33 hq
              exact B_45 w0 H locs ls hP hS (lv_sub hl [0] rfl) hq
          · rw [pv_cl3] at hq
            have hl : lv_has ls 6 [(0, .ref (a 0)), (1, .int 0), (2, .int x2), (3, .int 3), (4, .int x4), (5, .int x5)] := hl
            refine va_aldq (pc := 38) (D := E.1) hx hb hK hP 27 2 rfl rfl h_7 dX6_copy_38 ?_
            refine W.eq (g2 := F0 m 39 ls [.ref (a 34)]) rfl ?_
            refine pv_vRO (pc := 39) (rest := []) (st1 := [.int (m_X3_isMissing (w0.2.2.2.2.2.1 3))]) (ws := pv_wX E a w0) [] ⟨hx, hb, hml, hown, hts⟩ hE hA hS hP (hD w0) (c_X3_isMissing l E (a 34) (a 35) (w0.2.2.2.2.2.1 3)) (cwV 0 hts gX6_copy_X3_isMissing rfl rfl rfl (by decide +kernel) ⟨(Nat.le_of_ble_eq_true rfl), (Nat.le_of_ble_eq_true rfl)⟩) (va_recv hK hP (ci := 1) (q0 := 34) rfl rfl) [34, 35] rfl rfl rfl hl.1 rfl rfl (Nat.le_of_ble_eq_true rfl) dX6_copy_39 ⟨Nat.zero_le _, Nat.zero_le _⟩ (fun locs hS => ?_)
            refine lv_if_eq (pc := 42) (tgt := 52) hx hb dX6_copy_42 (by decide) (fun c_45 => ?_) (fun c_45 => ?_)
            · have hq := pv_pos c_45 hq
              refine lv_aload_n (pc := 52) hx hb dX6_copy_52 rfl (lv_at hl 0 rfl) ?_
              refine va_get (pc := 53) (D := E.1) (ci := 4) (v := .ref (a 27)) (C := RX6) (T := TX6) (N := 8) hx hb hts i_RX6 hown hK hP 0 rfl rfl 5 (Nat.le_of_ble_eq_true rfl) fl_38 (fun _ h9 => h9) rfl dX6_copy_53 ?_
              refine lv_iload_n (pc := 56) hx hb dX6_copy_56 rfl (lv_at hl 1 rfl) ?_
              obtain ⟨h_46, hq⟩ := pv_gd_some hq
              refine va_aldq (pc := 57) (D := E.1) hx hb hK hP 27 2 rfl rfl h_46 dX6_copy_57 ?_
              refine W.eq (g2 := F0 m 58 ls [.ref (a 28)]) rfl ?_
              refine va_get (pc := 58) (D := E.1) (ci := 1) (v := .int ((w0.2.2.2.2.2.1 0).1)) (C := RX3) (T := TX3) (N := 3) hx hb hts i_RX3 hown hK hP 28 rfl rfl 1 (Nat.le_of_ble_eq_true rfl) fl_225 (fun _ h9 => h9) rfl dX6_copy_58 ?_
              refine lv_aload_n (pc := 61) hx hb dX6_copy_61 rfl (lv_at hl 0 rfl) ?_
              refine va_get (pc := 62) (D := E.1) (ci := 4) (v := .ref (a 27)) (C := RX6) (T := TX6) (N := 8) hx hb hts i_RX6 hown hK hP 0 rfl rfl 5 (Nat.le_of_ble_eq_true rfl) fl_38 (fun _ h9 => h9) rfl dX6_copy_62 ?_
              refine lv_iload_n (pc := 65) hx hb dX6_copy_65 rfl (lv_at hl 3 rfl) ?_
              obtain ⟨h_47, hq⟩ := pv_gd_some hq
              refine va_aldq (pc := 66) (D := E.1) hx hb hK hP 27 2 rfl rfl h_47 dX6_copy_66 ?_
              refine W.eq (g2 := F0 m 67 ls [.ref (a 34), .int ((w0.2.2.2.2.2.1 0).1)]) rfl ?_
              refine va_get (pc := 67) (D := E.1) (ci := 1) (v := .int ((w0.2.2.2.2.2.1 3).1)) (C := RX3) (T := TX3) (N := 3) hx hb hts i_RX3 hown hK hP 34 rfl rfl 1 (Nat.le_of_ble_eq_true rfl) fl_225 (fun _ h9 => h9) rfl dX6_copy_67 ?_
              refine lv_icmp_eq (pc := 70) (tgt := 80) hx hb dX6_copy_70 (by decide) (fun c_48 => ?_) (fun c_48 => ?_)
              · have hq := pv_pos c_48 hq
                refine lv_aload_n (pc := 80) hx hb dX6_copy_80 rfl (lv_at hl 0 rfl) ?_
                refine va_get (pc := 81) (D := E.1) (ci := 4) (v := .ref (a 27)) (C := RX6) (T := TX6) (N := 8) hx hb hts i_RX6 hown hK hP 0 rfl rfl 5 (Nat.le_of_ble_eq_true rfl) fl_38 (fun _ h9 => h9) rfl dX6_copy_81 ?_
                refine lv_iload_n (pc := 84) hx hb dX6_copy_84 rfl (lv_at hl 1 rfl) ?_
                obtain ⟨h_49, hq⟩ := pv_gd_some hq
                refine va_aldq (pc := 85) (D := E.1) hx hb hK hP 27 2 rfl rfl h_49 dX6_copy_85 ?_
                refine W.eq (g2 := F0 m 86 ls [.ref (a 28)]) rfl ?_
                refine lv_iload_n (pc := 86) hx hb dX6_copy_86 rfl (lv_at hl 2 rfl) ?_
                refine lv_iload (pc := 87) hx hb dX6_copy_87 (lv_at hl 5 rfl) ?_
                refine pv_vRO (pc := 89) (rest := []) (st1 := [.int (m_X3_has x2 x5 (w0.2.2.2.2.2.1 0))]) (ws := pv_wX E a w0) [.int x2, .int x5] ⟨hx, hb, hml, hown, hts⟩ hE hA hS hP (hD w0) (c_X3_has l E (a 28) (a 29) x2 x5 (w0.2.2.2.2.2.1 0)) (cwV 2 hts gX6_copy_X3_has rfl rfl rfl (by decide +kernel) ⟨(Nat.le_of_ble_eq_true rfl), (Nat.le_of_ble_eq_true rfl)⟩) (va_recv hK hP (ci := 1) (q0 := 28) rfl rfl) [28, 29] rfl rfl rfl hl.1 rfl rfl (Nat.le_of_ble_eq_true rfl) dX6_copy_89 ⟨Nat.zero_le _, Nat.zero_le _⟩ (fun locs hS => ?_)
                refine lv_if_eq (pc := 92) (tgt := 111) hx hb dX6_copy_92 (by decide) (fun c_50 => ?_) (fun c_50 => ?_)
                · have hq := pv_pos c_50 hq
                  exact B_111 w0 H locs ls hP hS (lv_sub hl [0] rfl) hq
                · have hq := pv_neg c_50 hq
                  refine lv_aload_n (pc := 95) hx hb dX6_copy_95 rfl (lv_at hl 0 rfl) ?_
                  refine va_get (pc := 96) (D := E.1) (ci := 4) (v := .ref (a 27)) (C := RX6) (T := TX6) (N := 8) hx hb hts i_RX6 hown hK hP 0 rfl rfl 5 (Nat.le_of_ble_eq_true rfl) fl_38 (fun _ h9 => h9) rfl dX6_copy_96 ?_
                  refine lv_iload_n (pc := 99) hx hb dX6_copy_99 rfl (lv_at hl 3 rfl) ?_
                  obtain ⟨h_51, hq⟩ := pv_gd_some hq
                  refine va_aldq (pc := 100) (D := E.1) hx hb hK hP 27 2 rfl rfl h_51 dX6_copy_100 ?_
                  refine W.eq (g2 := F0 m 101 ls [.ref (a 34)]) rfl ?_
                  refine lv_iload (pc := 101) hx hb dX6_copy_101 (lv_at hl 4 rfl) ?_
                  refine lv_iload (pc := 103) hx hb dX6_copy_103 (lv_at hl 5 rfl) ?_
                  refine pv_vRO (pc := 105) (rest := []) (st1 := [.int (m_X3_has x4 x5 (w0.2.2.2.2.2.1 3))]) (ws := pv_wX E a w0) [.int x4, .int x5] ⟨hx, hb, hml, hown, hts⟩ hE hA hS hP (hD w0) (c_X3_has l E (a 34) (a 35) x4 x5 (w0.2.2.2.2.2.1 3)) (cwV 2 hts gX6_copy_X3_has rfl rfl rfl (by decide +kernel) ⟨(Nat.le_of_ble_eq_true rfl), (Nat.le_of_ble_eq_true rfl)⟩) (va_recv hK hP (ci := 1) (q0 := 34) rfl rfl) [34, 35] rfl rfl rfl hl.1 rfl rfl (Nat.le_of_ble_eq_true rfl) dX6_copy_105 ⟨Nat.zero_le _, Nat.zero_le _⟩ (fun locs hS => ?_)
                  refine lv_if_ne (pc := 108) (tgt := 118) hx hb dX6_copy_108 (by decide) (fun c_52 => ?_) (fun c_52 => ?_)
                  · have hq := pv_neg c_52 hq
                    refine lv_aload_n (pc := 118) hx hb dX6_copy_118 rfl (lv_at hl 0 rfl) ?_
                    refine va_get (pc := 119) (D := E.1) (ci := 4) (v := .ref (a 27)) (C := RX6) (T := TX6) (N := 8) hx hb hts i_RX6 hown hK hP 0 rfl rfl 5 (Nat.le_of_ble_eq_true rfl) fl_38 (fun _ h9 => h9) rfl dX6_copy_119 ?_
                    refine lv_iload_n (pc := 122) hx hb dX6_copy_122 rfl (lv_at hl 1 rfl) ?_
                    obtain ⟨h_53, hq⟩ := pv_gd_some hq
                    refine va_aldq (pc := 123) (D := E.1) hx hb hK hP 27 2 rfl rfl h_53 dX6_copy_123 ?_
                    refine W.eq (g2 := F0 m 124 ls [.ref (a 28)]) rfl ?_
                    refine va_get (pc := 124) (D := E.1) (ci := 1) (v := .ref (a 29)) (C := RX3) (T := TX3) (N := 3) hx hb hts i_RX3 hown hK hP 28 rfl rfl 0 (Nat.le_of_ble_eq_true rfl) fl_214 (fun _ h9 => h9) rfl dX6_copy_124 ?_
                    refine lv_iload_n (pc := 127) hx hb dX6_copy_127 rfl (lv_at hl 2 rfl) ?_
                    refine lv_aload_n (pc := 128) hx hb dX6_copy_128 rfl (lv_at hl 0 rfl) ?_
                    refine va_get (pc := 129) (D := E.1) (ci := 4) (v := .ref (a 27)) (C := RX6) (T := TX6) (N := 8) hx hb hts i_RX6 hown hK hP 0 rfl rfl 5 (Nat.le_of_ble_eq_true rfl) fl_38 (fun _ h9 => h9) rfl dX6_copy_129 ?_
                    refine lv_iload_n (pc := 132) hx hb dX6_copy_132 rfl (lv_at hl 3 rfl) ?_
                    obtain ⟨h_54, hq⟩ := pv_gd_some hq
                    refine va_aldq (pc := 133) (D := E.1) hx hb hK hP 27 2 rfl rfl h_54 dX6_copy_133 ?_
                    refine W.eq (g2 := F0 m 134 ls [.ref (a 34), .int x2, .ref (a 29)]) rfl ?_
                    refine va_get (pc := 134) (D := E.1) (ci := 1) (v := .ref (a 35)) (C := RX3) (T := TX3) (N := 3) hx hb hts i_RX3 hown hK hP 34 rfl rfl 0 (Nat.le_of_ble_eq_true rfl) fl_214 (fun _ h9 => h9) rfl dX6_copy_134 ?_
                    refine lv_iload (pc := 137) hx hb dX6_copy_137 (lv_at hl 4 rfl) ?_
                    refine lv_iload (pc := 139) hx hb dX6_copy_139 (lv_at hl 5 rfl) ?_
                    obtain ⟨h_55, hq⟩ := pv_gc_some hq
                    refine va_copyl (pc := 141) (D := E.1) hx hb (by rw [hml]; exact hl.1.symm) hown ac_l ac_n ac_s ac_i hK hP (hD w0) hS 29 35 1 1 rfl rfl rfl rfl rfl h_55.1 h_55.2.1 h_55.2.2.1 h_55.2.2.2.1 h_55.2.2.2.2 (fun _ _ => rfl) (Nat.le_of_ble_eq_true rfl) (by decide) dX6_copy_141 (fun H locs hP _ hS => ?_)
                    have hP : va_P E.1 vwCl (pv_wX E a (w0.1, w0.2.1, w0.2.2.1, w0.2.2.2.1, w0.2.2.2.2.1, (va_up w0.2.2.2.2.2.1 3 ((w0.2.2.2.2.2.1 3).1, (w0.2.2.2.2.2.1 3).2.1, (va_cpy (w0.2.2.2.2.2.1 0).2.2 (w0.2.2.2.2.2.1 3).2.2 x2.toNatClampNeg x4.toNatClampNeg x5.toNatClampNeg))), w0.2.2.2.2.2.2.1, w0.2.2.2.2.2.2.2)) H := hP
                    refine lv_iload (pc := 144) hx hb dX6_copy_144 (lv_at hl 5 rfl) ?_
                    exact pv_riRW (w := fun w : pv_XT => pv_wX E a w) hx hb hr hlk hAe hS hP (Option.some.inj hq) dX6_copy_146
                  · have hq := pv_pos c_52 hq
                    exact B_111 w0 H locs ls hP hS (lv_sub hl [0] rfl) hq
              · have hq := pv_neg c_48 hq
                refine lv_aload_n (pc := 73) hx hb dX6_copy_73 rfl (lv_at hl 0 rfl) ?_
                refine lv_ldc (pc := 74) hx hb hown lc_127 dX6_copy_74 ?_
                obtain ⟨u_56, hu_56, hq⟩ := pv_bind hq
                refine pv_vRWf (pc := 76) (rest := []) (st1 := [.int u_56.1]) (ws := pv_wX E a w0) [.int (-1000000003)] ⟨hx, hb, hml, hown, hts⟩ hE hA hS hP (hD w0) (c_X6_finding l E a (-1000000003) w0 u_56 hu_56) (cwV 1 hts gX6_copy_X6_finding rfl rfl rfl (by decide +kernel) ⟨(Nat.le_of_ble_eq_true rfl), (Nat.le_of_ble_eq_true rfl)⟩) (va_recv hK hP (ci := 4) (q0 := 0) rfl rfl) rfl hl.1 rfl rfl (Nat.le_of_ble_eq_true rfl) dX6_copy_76 ⟨Nat.zero_le _, Nat.zero_le _⟩ (fun H locs hP hS => ?_)
                have hP : va_P E.1 vwCl (pv_wX E a u_56.2) H := hP
                exact pv_riRW (w := fun w : pv_XT => pv_wX E a w) hx hb hr hlk hAe hS hP (Option.some.inj hq) dX6_copy_79
            · have hq := pv_neg c_45 hq
              exact B_45 w0 H locs ls hP hS (lv_sub hl [0] rfl) hq
      · rw [pv_cl1] at hq
        have hl : lv_has ls 6 [(0, .ref (a 0)), (1, .int 1), (2, .int x2), (3, .int x3), (4, .int x4), (5, .int x5)] := hl
        refine va_aldq (pc := 26) (D := E.1) hx hb hK hP 27 2 rfl rfl h_4 dX6_copy_26 ?_
        refine W.eq (g2 := F0 m 27 ls [.ref (a 30)]) rfl ?_
        refine pv_vRO (pc := 27) (rest := []) (st1 := [.int (m_X3_isMissing (w0.2.2.2.2.2.1 1))]) (ws := pv_wX E a w0) [] ⟨hx, hb, hml, hown, hts⟩ hE hA hS hP (hD w0) (c_X3_isMissing l E (a 30) (a 31) (w0.2.2.2.2.2.1 1)) (cwV 0 hts gX6_copy_X3_isMissing rfl rfl rfl (by decide +kernel) ⟨(Nat.le_of_ble_eq_true rfl), (Nat.le_of_ble_eq_true rfl)⟩) (va_recv hK hP (ci := 1) (q0 := 30) rfl rfl) [30, 31] rfl rfl rfl hl.1 rfl rfl (Nat.le_of_ble_eq_true rfl) dX6_copy_27 ⟨Nat.zero_le _, Nat.zero_le _⟩ (fun locs hS => ?_)
        refine lv_if_ne (pc := 30) (tgt := 45) hx hb dX6_copy_30 (by decide) (fun c_57 => ?_) (fun c_57 => ?_)
        · have hq := pv_neg c_57 hq
          exact B_45 w0 H locs ls hP hS (lv_sub hl [0] rfl) hq
        · have hq := pv_pos c_57 hq
          refine lv_aload_n (pc := 33) hx hb dX6_copy_33 rfl (lv_at hl 0 rfl) ?_
          refine va_get (pc := 34) (D := E.1) (ci := 4) (v := .ref (a 27)) (C := RX6) (T := TX6) (N := 8) hx hb hts i_RX6 hown hK hP 0 rfl rfl 5 (Nat.le_of_ble_eq_true rfl) fl_38 (fun _ h9 => h9) rfl dX6_copy_34 ?_
          refine lv_iload_n (pc := 37) hx hb dX6_copy_37 rfl (lv_at hl 3 rfl) ?_
          obtain ⟨h_58, hq⟩ := pv_gd_some hq
          rcases pv_sh4 h_58 with rfl | rfl | rfl | rfl
          · rw [pv_cl0] at hq
            have hl : lv_has ls 6 [(0, .ref (a 0)), (1, .int 1), (2, .int x2), (3, .int 0), (4, .int x4), (5, .int x5)] := hl
            refine va_aldq (pc := 38) (D := E.1) hx hb hK hP 27 2 rfl rfl h_58 dX6_copy_38 ?_
            refine W.eq (g2 := F0 m 39 ls [.ref (a 28)]) rfl ?_
            refine pv_vRO (pc := 39) (rest := []) (st1 := [.int (m_X3_isMissing (w0.2.2.2.2.2.1 0))]) (ws := pv_wX E a w0) [] ⟨hx, hb, hml, hown, hts⟩ hE hA hS hP (hD w0) (c_X3_isMissing l E (a 28) (a 29) (w0.2.2.2.2.2.1 0)) (cwV 0 hts gX6_copy_X3_isMissing rfl rfl rfl (by decide +kernel) ⟨(Nat.le_of_ble_eq_true rfl), (Nat.le_of_ble_eq_true rfl)⟩) (va_recv hK hP (ci := 1) (q0 := 28) rfl rfl) [28, 29] rfl rfl rfl hl.1 rfl rfl (Nat.le_of_ble_eq_true rfl) dX6_copy_39 ⟨Nat.zero_le _, Nat.zero_le _⟩ (fun locs hS => ?_)
            refine lv_if_eq (pc := 42) (tgt := 52) hx hb dX6_copy_42 (by decide) (fun c_59 => ?_) (fun c_59 => ?_)
            · have hq := pv_pos c_59 hq
              refine lv_aload_n (pc := 52) hx hb dX6_copy_52 rfl (lv_at hl 0 rfl) ?_
              refine va_get (pc := 53) (D := E.1) (ci := 4) (v := .ref (a 27)) (C := RX6) (T := TX6) (N := 8) hx hb hts i_RX6 hown hK hP 0 rfl rfl 5 (Nat.le_of_ble_eq_true rfl) fl_38 (fun _ h9 => h9) rfl dX6_copy_53 ?_
              refine lv_iload_n (pc := 56) hx hb dX6_copy_56 rfl (lv_at hl 1 rfl) ?_
              obtain ⟨h_60, hq⟩ := pv_gd_some hq
              refine va_aldq (pc := 57) (D := E.1) hx hb hK hP 27 2 rfl rfl h_60 dX6_copy_57 ?_
              refine W.eq (g2 := F0 m 58 ls [.ref (a 30)]) rfl ?_
              refine va_get (pc := 58) (D := E.1) (ci := 1) (v := .int ((w0.2.2.2.2.2.1 1).1)) (C := RX3) (T := TX3) (N := 3) hx hb hts i_RX3 hown hK hP 30 rfl rfl 1 (Nat.le_of_ble_eq_true rfl) fl_225 (fun _ h9 => h9) rfl dX6_copy_58 ?_
              refine lv_aload_n (pc := 61) hx hb dX6_copy_61 rfl (lv_at hl 0 rfl) ?_
              refine va_get (pc := 62) (D := E.1) (ci := 4) (v := .ref (a 27)) (C := RX6) (T := TX6) (N := 8) hx hb hts i_RX6 hown hK hP 0 rfl rfl 5 (Nat.le_of_ble_eq_true rfl) fl_38 (fun _ h9 => h9) rfl dX6_copy_62 ?_
              refine lv_iload_n (pc := 65) hx hb dX6_copy_65 rfl (lv_at hl 3 rfl) ?_
              obtain ⟨h_61, hq⟩ := pv_gd_some hq
              refine va_aldq (pc := 66) (D := E.1) hx hb hK hP 27 2 rfl rfl h_61 dX6_copy_66 ?_
              refine W.eq (g2 := F0 m 67 ls [.ref (a 28), .int ((w0.2.2.2.2.2.1 1).1)]) rfl ?_
              refine va_get (pc := 67) (D := E.1) (ci := 1) (v := .int ((w0.2.2.2.2.2.1 0).1)) (C := RX3) (T := TX3) (N := 3) hx hb hts i_RX3 hown hK hP 28 rfl rfl 1 (Nat.le_of_ble_eq_true rfl) fl_225 (fun _ h9 => h9) rfl dX6_copy_67 ?_
              refine lv_icmp_eq (pc := 70) (tgt := 80) hx hb dX6_copy_70 (by decide) (fun c_62 => ?_) (fun c_62 => ?_)
              · have hq := pv_pos c_62 hq
                refine lv_aload_n (pc := 80) hx hb dX6_copy_80 rfl (lv_at hl 0 rfl) ?_
                refine va_get (pc := 81) (D := E.1) (ci := 4) (v := .ref (a 27)) (C := RX6) (T := TX6) (N := 8) hx hb hts i_RX6 hown hK hP 0 rfl rfl 5 (Nat.le_of_ble_eq_true rfl) fl_38 (fun _ h9 => h9) rfl dX6_copy_81 ?_
                refine lv_iload_n (pc := 84) hx hb dX6_copy_84 rfl (lv_at hl 1 rfl) ?_
                obtain ⟨h_63, hq⟩ := pv_gd_some hq
                refine va_aldq (pc := 85) (D := E.1) hx hb hK hP 27 2 rfl rfl h_63 dX6_copy_85 ?_
                refine W.eq (g2 := F0 m 86 ls [.ref (a 30)]) rfl ?_
                refine lv_iload_n (pc := 86) hx hb dX6_copy_86 rfl (lv_at hl 2 rfl) ?_
                refine lv_iload (pc := 87) hx hb dX6_copy_87 (lv_at hl 5 rfl) ?_
                refine pv_vRO (pc := 89) (rest := []) (st1 := [.int (m_X3_has x2 x5 (w0.2.2.2.2.2.1 1))]) (ws := pv_wX E a w0) [.int x2, .int x5] ⟨hx, hb, hml, hown, hts⟩ hE hA hS hP (hD w0) (c_X3_has l E (a 30) (a 31) x2 x5 (w0.2.2.2.2.2.1 1)) (cwV 2 hts gX6_copy_X3_has rfl rfl rfl (by decide +kernel) ⟨(Nat.le_of_ble_eq_true rfl), (Nat.le_of_ble_eq_true rfl)⟩) (va_recv hK hP (ci := 1) (q0 := 30) rfl rfl) [30, 31] rfl rfl rfl hl.1 rfl rfl (Nat.le_of_ble_eq_true rfl) dX6_copy_89 ⟨Nat.zero_le _, Nat.zero_le _⟩ (fun locs hS => ?_)
                refine lv_if_eq (pc := 92) (tgt := 111) hx hb dX6_copy_92 (by decide) (fun c_64 => ?_) (fun c_64 => ?_)
                · have hq := pv_pos c_64 hq
                  exact B_111 w0 H locs ls hP hS (lv_sub hl [0] rfl) hq
                · have hq := pv_neg c_64 hq
                  refine lv_aload_n (pc := 95) hx hb dX6_copy_95 rfl (lv_at hl 0 rfl) ?_
                  refine va_get (pc := 96) (D := E.1) (ci := 4) (v := .ref (a 27)) (C := RX6) (T := TX6) (N := 8) hx hb hts i_RX6 hown hK hP 0 rfl rfl 5 (Nat.le_of_ble_eq_true rfl) fl_38 (fun _ h9 => h9) rfl dX6_copy_96 ?_
                  refine lv_iload_n (pc := 99) hx hb dX6_copy_99 rfl (lv_at hl 3 rfl) ?_
                  obtain ⟨h_65, hq⟩ := pv_gd_some hq
                  refine va_aldq (pc := 100) (D := E.1) hx hb hK hP 27 2 rfl rfl h_65 dX6_copy_100 ?_
                  refine W.eq (g2 := F0 m 101 ls [.ref (a 28)]) rfl ?_
                  refine lv_iload (pc := 101) hx hb dX6_copy_101 (lv_at hl 4 rfl) ?_
                  refine lv_iload (pc := 103) hx hb dX6_copy_103 (lv_at hl 5 rfl) ?_
                  refine pv_vRO (pc := 105) (rest := []) (st1 := [.int (m_X3_has x4 x5 (w0.2.2.2.2.2.1 0))]) (ws := pv_wX E a w0) [.int x4, .int x5] ⟨hx, hb, hml, hown, hts⟩ hE hA hS hP (hD w0) (c_X3_has l E (a 28) (a 29) x4 x5 (w0.2.2.2.2.2.1 0)) (cwV 2 hts gX6_copy_X3_has rfl rfl rfl (by decide +kernel) ⟨(Nat.le_of_ble_eq_true rfl), (Nat.le_of_ble_eq_true rfl)⟩) (va_recv hK hP (ci := 1) (q0 := 28) rfl rfl) [28, 29] rfl rfl rfl hl.1 rfl rfl (Nat.le_of_ble_eq_true rfl) dX6_copy_105 ⟨Nat.zero_le _, Nat.zero_le _⟩ (fun locs hS => ?_)
                  refine lv_if_ne (pc := 108) (tgt := 118) hx hb dX6_copy_108 (by decide) (fun c_66 => ?_) (fun c_66 => ?_)
                  · have hq := pv_neg c_66 hq
                    refine lv_aload_n (pc := 118) hx hb dX6_copy_118 rfl (lv_at hl 0 rfl) ?_
                    refine va_get (pc := 119) (D := E.1) (ci := 4) (v := .ref (a 27)) (C := RX6) (T := TX6) (N := 8) hx hb hts i_RX6 hown hK hP 0 rfl rfl 5 (Nat.le_of_ble_eq_true rfl) fl_38 (fun _ h9 => h9) rfl dX6_copy_119 ?_
                    refine lv_iload_n (pc := 122) hx hb dX6_copy_122 rfl (lv_at hl 1 rfl) ?_
                    obtain ⟨h_67, hq⟩ := pv_gd_some hq
                    refine va_aldq (pc := 123) (D := E.1) hx hb hK hP 27 2 rfl rfl h_67 dX6_copy_123 ?_
                    refine W.eq (g2 := F0 m 124 ls [.ref (a 30)]) rfl ?_
                    refine va_get (pc := 124) (D := E.1) (ci := 1) (v := .ref (a 31)) (C := RX3) (T := TX3) (N := 3) hx hb hts i_RX3 hown hK hP 30 rfl rfl 0 (Nat.le_of_ble_eq_true rfl) fl_214 (fun _ h9 => h9) rfl dX6_copy_124 ?_
                    refine lv_iload_n (pc := 127) hx hb dX6_copy_127 rfl (lv_at hl 2 rfl) ?_
                    refine lv_aload_n (pc := 128) hx hb dX6_copy_128 rfl (lv_at hl 0 rfl) ?_
                    refine va_get (pc := 129) (D := E.1) (ci := 4) (v := .ref (a 27)) (C := RX6) (T := TX6) (N := 8) hx hb hts i_RX6 hown hK hP 0 rfl rfl 5 (Nat.le_of_ble_eq_true rfl) fl_38 (fun _ h9 => h9) rfl dX6_copy_129 ?_
                    refine lv_iload_n (pc := 132) hx hb dX6_copy_132 rfl (lv_at hl 3 rfl) ?_
                    obtain ⟨h_68, hq⟩ := pv_gd_some hq
                    refine va_aldq (pc := 133) (D := E.1) hx hb hK hP 27 2 rfl rfl h_68 dX6_copy_133 ?_
                    refine W.eq (g2 := F0 m 134 ls [.ref (a 28), .int x2, .ref (a 31)]) rfl ?_
                    refine va_get (pc := 134) (D := E.1) (ci := 1) (v := .ref (a 29)) (C := RX3) (T := TX3) (N := 3) hx hb hts i_RX3 hown hK hP 28 rfl rfl 0 (Nat.le_of_ble_eq_true rfl) fl_214 (fun _ h9 => h9) rfl dX6_copy_134 ?_
                    refine lv_iload (pc := 137) hx hb dX6_copy_137 (lv_at hl 4 rfl) ?_
                    refine lv_iload (pc := 139) hx hb dX6_copy_139 (lv_at hl 5 rfl) ?_
                    obtain ⟨h_69, hq⟩ := pv_gc_some hq
                    refine va_copyl (pc := 141) (D := E.1) hx hb (by rw [hml]; exact hl.1.symm) hown ac_l ac_n ac_s ac_i hK hP (hD w0) hS 31 29 1 1 rfl rfl rfl rfl rfl h_69.1 h_69.2.1 h_69.2.2.1 h_69.2.2.2.1 h_69.2.2.2.2 (fun _ _ => rfl) (Nat.le_of_ble_eq_true rfl) (by decide) dX6_copy_141 (fun H locs hP _ hS => ?_)
                    have hP : va_P E.1 vwCl (pv_wX E a (w0.1, w0.2.1, w0.2.2.1, w0.2.2.2.1, w0.2.2.2.2.1, (va_up w0.2.2.2.2.2.1 0 ((w0.2.2.2.2.2.1 0).1, (w0.2.2.2.2.2.1 0).2.1, (va_cpy (w0.2.2.2.2.2.1 1).2.2 (w0.2.2.2.2.2.1 0).2.2 x2.toNatClampNeg x4.toNatClampNeg x5.toNatClampNeg))), w0.2.2.2.2.2.2.1, w0.2.2.2.2.2.2.2)) H := hP
                    refine lv_iload (pc := 144) hx hb dX6_copy_144 (lv_at hl 5 rfl) ?_
                    exact pv_riRW (w := fun w : pv_XT => pv_wX E a w) hx hb hr hlk hAe hS hP (Option.some.inj hq) dX6_copy_146
                  · have hq := pv_pos c_66 hq
                    exact B_111 w0 H locs ls hP hS (lv_sub hl [0] rfl) hq
              · have hq := pv_neg c_62 hq
                refine lv_aload_n (pc := 73) hx hb dX6_copy_73 rfl (lv_at hl 0 rfl) ?_
                refine lv_ldc (pc := 74) hx hb hown lc_127 dX6_copy_74 ?_
                obtain ⟨u_70, hu_70, hq⟩ := pv_bind hq
                refine pv_vRWf (pc := 76) (rest := []) (st1 := [.int u_70.1]) (ws := pv_wX E a w0) [.int (-1000000003)] ⟨hx, hb, hml, hown, hts⟩ hE hA hS hP (hD w0) (c_X6_finding l E a (-1000000003) w0 u_70 hu_70) (cwV 1 hts gX6_copy_X6_finding rfl rfl rfl (by decide +kernel) ⟨(Nat.le_of_ble_eq_true rfl), (Nat.le_of_ble_eq_true rfl)⟩) (va_recv hK hP (ci := 4) (q0 := 0) rfl rfl) rfl hl.1 rfl rfl (Nat.le_of_ble_eq_true rfl) dX6_copy_76 ⟨Nat.zero_le _, Nat.zero_le _⟩ (fun H locs hP hS => ?_)
                have hP : va_P E.1 vwCl (pv_wX E a u_70.2) H := hP
                exact pv_riRW (w := fun w : pv_XT => pv_wX E a w) hx hb hr hlk hAe hS hP (Option.some.inj hq) dX6_copy_79
            · have hq := pv_neg c_59 hq
              exact B_45 w0 H locs ls hP hS (lv_sub hl [0] rfl) hq
          · rw [pv_cl1] at hq
            have hl : lv_has ls 6 [(0, .ref (a 0)), (1, .int 1), (2, .int x2), (3, .int 1), (4, .int x4), (5, .int x5)] := hl
            refine va_aldq (pc := 38) (D := E.1) hx hb hK hP 27 2 rfl rfl h_58 dX6_copy_38 ?_
            refine W.eq (g2 := F0 m 39 ls [.ref (a 30)]) rfl ?_
            refine pv_vRO (pc := 39) (rest := []) (st1 := [.int (m_X3_isMissing (w0.2.2.2.2.2.1 1))]) (ws := pv_wX E a w0) [] ⟨hx, hb, hml, hown, hts⟩ hE hA hS hP (hD w0) (c_X3_isMissing l E (a 30) (a 31) (w0.2.2.2.2.2.1 1)) (cwV 0 hts gX6_copy_X3_isMissing rfl rfl rfl (by decide +kernel) ⟨(Nat.le_of_ble_eq_true rfl), (Nat.le_of_ble_eq_true rfl)⟩) (va_recv hK hP (ci := 1) (q0 := 30) rfl rfl) [30, 31] rfl rfl rfl hl.1 rfl rfl (Nat.le_of_ble_eq_true rfl) dX6_copy_39 ⟨Nat.zero_le _, Nat.zero_le _⟩ (fun locs hS => ?_)
            refine lv_if_eq (pc := 42) (tgt := 52) hx hb dX6_copy_42 (by decide) (fun c_71 => ?_) (fun c_71 => ?_)
            · have hq := pv_pos c_71 hq
              refine lv_aload_n (pc := 52) hx hb dX6_copy_52 rfl (lv_at hl 0 rfl) ?_
              refine va_get (pc := 53) (D := E.1) (ci := 4) (v := .ref (a 27)) (C := RX6) (T := TX6) (N := 8) hx hb hts i_RX6 hown hK hP 0 rfl rfl 5 (Nat.le_of_ble_eq_true rfl) fl_38 (fun _ h9 => h9) rfl dX6_copy_53 ?_
              refine lv_iload_n (pc := 56) hx hb dX6_copy_56 rfl (lv_at hl 1 rfl) ?_
              obtain ⟨h_72, hq⟩ := pv_gd_some hq
              refine va_aldq (pc := 57) (D := E.1) hx hb hK hP 27 2 rfl rfl h_72 dX6_copy_57 ?_
              refine W.eq (g2 := F0 m 58 ls [.ref (a 30)]) rfl ?_
              refine va_get (pc := 58) (D := E.1) (ci := 1) (v := .int ((w0.2.2.2.2.2.1 1).1)) (C := RX3) (T := TX3) (N := 3) hx hb hts i_RX3 hown hK hP 30 rfl rfl 1 (Nat.le_of_ble_eq_true rfl) fl_225 (fun _ h9 => h9) rfl dX6_copy_58 ?_
              refine lv_aload_n (pc := 61) hx hb dX6_copy_61 rfl (lv_at hl 0 rfl) ?_
              refine va_get (pc := 62) (D := E.1) (ci := 4) (v := .ref (a 27)) (C := RX6) (T := TX6) (N := 8) hx hb hts i_RX6 hown hK hP 0 rfl rfl 5 (Nat.le_of_ble_eq_true rfl) fl_38 (fun _ h9 => h9) rfl dX6_copy_62 ?_
              refine lv_iload_n (pc := 65) hx hb dX6_copy_65 rfl (lv_at hl 3 rfl) ?_
              obtain ⟨h_73, hq⟩ := pv_gd_some hq
              refine va_aldq (pc := 66) (D := E.1) hx hb hK hP 27 2 rfl rfl h_73 dX6_copy_66 ?_
              refine W.eq (g2 := F0 m 67 ls [.ref (a 30), .int ((w0.2.2.2.2.2.1 1).1)]) rfl ?_
              refine va_get (pc := 67) (D := E.1) (ci := 1) (v := .int ((w0.2.2.2.2.2.1 1).1)) (C := RX3) (T := TX3) (N := 3) hx hb hts i_RX3 hown hK hP 30 rfl rfl 1 (Nat.le_of_ble_eq_true rfl) fl_225 (fun _ h9 => h9) rfl dX6_copy_67 ?_
              refine lv_icmp_eq (pc := 70) (tgt := 80) hx hb dX6_copy_70 (by decide) (fun c_74 => ?_) (fun c_74 => ?_)
              · have hq := pv_pos c_74 hq
                refine lv_aload_n (pc := 80) hx hb dX6_copy_80 rfl (lv_at hl 0 rfl) ?_
                refine va_get (pc := 81) (D := E.1) (ci := 4) (v := .ref (a 27)) (C := RX6) (T := TX6) (N := 8) hx hb hts i_RX6 hown hK hP 0 rfl rfl 5 (Nat.le_of_ble_eq_true rfl) fl_38 (fun _ h9 => h9) rfl dX6_copy_81 ?_
                refine lv_iload_n (pc := 84) hx hb dX6_copy_84 rfl (lv_at hl 1 rfl) ?_
                obtain ⟨h_75, hq⟩ := pv_gd_some hq
                refine va_aldq (pc := 85) (D := E.1) hx hb hK hP 27 2 rfl rfl h_75 dX6_copy_85 ?_
                refine W.eq (g2 := F0 m 86 ls [.ref (a 30)]) rfl ?_
                refine lv_iload_n (pc := 86) hx hb dX6_copy_86 rfl (lv_at hl 2 rfl) ?_
                refine lv_iload (pc := 87) hx hb dX6_copy_87 (lv_at hl 5 rfl) ?_
                refine pv_vRO (pc := 89) (rest := []) (st1 := [.int (m_X3_has x2 x5 (w0.2.2.2.2.2.1 1))]) (ws := pv_wX E a w0) [.int x2, .int x5] ⟨hx, hb, hml, hown, hts⟩ hE hA hS hP (hD w0) (c_X3_has l E (a 30) (a 31) x2 x5 (w0.2.2.2.2.2.1 1)) (cwV 2 hts gX6_copy_X3_has rfl rfl rfl (by decide +kernel) ⟨(Nat.le_of_ble_eq_true rfl), (Nat.le_of_ble_eq_true rfl)⟩) (va_recv hK hP (ci := 1) (q0 := 30) rfl rfl) [30, 31] rfl rfl rfl hl.1 rfl rfl (Nat.le_of_ble_eq_true rfl) dX6_copy_89 ⟨Nat.zero_le _, Nat.zero_le _⟩ (fun locs hS => ?_)
                refine lv_if_eq (pc := 92) (tgt := 111) hx hb dX6_copy_92 (by decide) (fun c_76 => ?_) (fun c_76 => ?_)
                · have hq := pv_pos c_76 hq
                  exact B_111 w0 H locs ls hP hS (lv_sub hl [0] rfl) hq
                · have hq := pv_neg c_76 hq
                  refine lv_aload_n (pc := 95) hx hb dX6_copy_95 rfl (lv_at hl 0 rfl) ?_
                  refine va_get (pc := 96) (D := E.1) (ci := 4) (v := .ref (a 27)) (C := RX6) (T := TX6) (N := 8) hx hb hts i_RX6 hown hK hP 0 rfl rfl 5 (Nat.le_of_ble_eq_true rfl) fl_38 (fun _ h9 => h9) rfl dX6_copy_96 ?_
                  refine lv_iload_n (pc := 99) hx hb dX6_copy_99 rfl (lv_at hl 3 rfl) ?_
                  obtain ⟨h_77, hq⟩ := pv_gd_some hq
                  refine va_aldq (pc := 100) (D := E.1) hx hb hK hP 27 2 rfl rfl h_77 dX6_copy_100 ?_
                  refine W.eq (g2 := F0 m 101 ls [.ref (a 30)]) rfl ?_
                  refine lv_iload (pc := 101) hx hb dX6_copy_101 (lv_at hl 4 rfl) ?_
                  refine lv_iload (pc := 103) hx hb dX6_copy_103 (lv_at hl 5 rfl) ?_
                  refine pv_vRO (pc := 105) (rest := []) (st1 := [.int (m_X3_has x4 x5 (w0.2.2.2.2.2.1 1))]) (ws := pv_wX E a w0) [.int x4, .int x5] ⟨hx, hb, hml, hown, hts⟩ hE hA hS hP (hD w0) (c_X3_has l E (a 30) (a 31) x4 x5 (w0.2.2.2.2.2.1 1)) (cwV 2 hts gX6_copy_X3_has rfl rfl rfl (by decide +kernel) ⟨(Nat.le_of_ble_eq_true rfl), (Nat.le_of_ble_eq_true rfl)⟩) (va_recv hK hP (ci := 1) (q0 := 30) rfl rfl) [30, 31] rfl rfl rfl hl.1 rfl rfl (Nat.le_of_ble_eq_true rfl) dX6_copy_105 ⟨Nat.zero_le _, Nat.zero_le _⟩ (fun locs hS => ?_)
                  refine lv_if_ne (pc := 108) (tgt := 118) hx hb dX6_copy_108 (by decide) (fun c_78 => ?_) (fun c_78 => ?_)
                  · have hq := pv_neg c_78 hq
                    refine lv_aload_n (pc := 118) hx hb dX6_copy_118 rfl (lv_at hl 0 rfl) ?_
                    refine va_get (pc := 119) (D := E.1) (ci := 4) (v := .ref (a 27)) (C := RX6) (T := TX6) (N := 8) hx hb hts i_RX6 hown hK hP 0 rfl rfl 5 (Nat.le_of_ble_eq_true rfl) fl_38 (fun _ h9 => h9) rfl dX6_copy_119 ?_
                    refine lv_iload_n (pc := 122) hx hb dX6_copy_122 rfl (lv_at hl 1 rfl) ?_
                    obtain ⟨h_79, hq⟩ := pv_gd_some hq
                    refine va_aldq (pc := 123) (D := E.1) hx hb hK hP 27 2 rfl rfl h_79 dX6_copy_123 ?_
                    refine W.eq (g2 := F0 m 124 ls [.ref (a 30)]) rfl ?_
                    refine va_get (pc := 124) (D := E.1) (ci := 1) (v := .ref (a 31)) (C := RX3) (T := TX3) (N := 3) hx hb hts i_RX3 hown hK hP 30 rfl rfl 0 (Nat.le_of_ble_eq_true rfl) fl_214 (fun _ h9 => h9) rfl dX6_copy_124 ?_
                    refine lv_iload_n (pc := 127) hx hb dX6_copy_127 rfl (lv_at hl 2 rfl) ?_
                    refine lv_aload_n (pc := 128) hx hb dX6_copy_128 rfl (lv_at hl 0 rfl) ?_
                    refine va_get (pc := 129) (D := E.1) (ci := 4) (v := .ref (a 27)) (C := RX6) (T := TX6) (N := 8) hx hb hts i_RX6 hown hK hP 0 rfl rfl 5 (Nat.le_of_ble_eq_true rfl) fl_38 (fun _ h9 => h9) rfl dX6_copy_129 ?_
                    refine lv_iload_n (pc := 132) hx hb dX6_copy_132 rfl (lv_at hl 3 rfl) ?_
                    obtain ⟨h_80, hq⟩ := pv_gd_some hq
                    refine va_aldq (pc := 133) (D := E.1) hx hb hK hP 27 2 rfl rfl h_80 dX6_copy_133 ?_
                    refine W.eq (g2 := F0 m 134 ls [.ref (a 30), .int x2, .ref (a 31)]) rfl ?_
                    refine va_get (pc := 134) (D := E.1) (ci := 1) (v := .ref (a 31)) (C := RX3) (T := TX3) (N := 3) hx hb hts i_RX3 hown hK hP 30 rfl rfl 0 (Nat.le_of_ble_eq_true rfl) fl_214 (fun _ h9 => h9) rfl dX6_copy_134 ?_
                    refine lv_iload (pc := 137) hx hb dX6_copy_137 (lv_at hl 4 rfl) ?_
                    refine lv_iload (pc := 139) hx hb dX6_copy_139 (lv_at hl 5 rfl) ?_
                    obtain ⟨h_81, hq⟩ := pv_gc_some hq
                    refine va_copyl (pc := 141) (D := E.1) hx hb (by rw [hml]; exact hl.1.symm) hown ac_l ac_n ac_s ac_i hK hP (hD w0) hS 31 31 1 1 rfl rfl rfl rfl rfl h_81.1 h_81.2.1 h_81.2.2.1 h_81.2.2.2.1 h_81.2.2.2.2 (fun _ _ => rfl) (Nat.le_of_ble_eq_true rfl) (by decide) dX6_copy_141 (fun H locs hP _ hS => ?_)
                    have hP : va_P E.1 vwCl (pv_wX E a (w0.1, w0.2.1, w0.2.2.1, w0.2.2.2.1, w0.2.2.2.2.1, (va_up w0.2.2.2.2.2.1 1 ((w0.2.2.2.2.2.1 1).1, (w0.2.2.2.2.2.1 1).2.1, (va_cpy (w0.2.2.2.2.2.1 1).2.2 (w0.2.2.2.2.2.1 1).2.2 x2.toNatClampNeg x4.toNatClampNeg x5.toNatClampNeg))), w0.2.2.2.2.2.2.1, w0.2.2.2.2.2.2.2)) H := hP
                    refine lv_iload (pc := 144) hx hb dX6_copy_144 (lv_at hl 5 rfl) ?_
                    exact pv_riRW (w := fun w : pv_XT => pv_wX E a w) hx hb hr hlk hAe hS hP (Option.some.inj hq) dX6_copy_146
                  · have hq := pv_pos c_78 hq
                    exact B_111 w0 H locs ls hP hS (lv_sub hl [0] rfl) hq
              · have hq := pv_neg c_74 hq
                refine lv_aload_n (pc := 73) hx hb dX6_copy_73 rfl (lv_at hl 0 rfl) ?_
                refine lv_ldc (pc := 74) hx hb hown lc_127 dX6_copy_74 ?_
                obtain ⟨u_82, hu_82, hq⟩ := pv_bind hq
                refine pv_vRWf (pc := 76) (rest := []) (st1 := [.int u_82.1]) (ws := pv_wX E a w0) [.int (-1000000003)] ⟨hx, hb, hml, hown, hts⟩ hE hA hS hP (hD w0) (c_X6_finding l E a (-1000000003) w0 u_82 hu_82) (cwV 1 hts gX6_copy_X6_finding rfl rfl rfl (by decide +kernel) ⟨(Nat.le_of_ble_eq_true rfl), (Nat.le_of_ble_eq_true rfl)⟩) (va_recv hK hP (ci := 4) (q0 := 0) rfl rfl) rfl hl.1 rfl rfl (Nat.le_of_ble_eq_true rfl) dX6_copy_76 ⟨Nat.zero_le _, Nat.zero_le _⟩ (fun H locs hP hS => ?_)
                have hP : va_P E.1 vwCl (pv_wX E a u_82.2) H := hP
                exact pv_riRW (w := fun w : pv_XT => pv_wX E a w) hx hb hr hlk hAe hS hP (Option.some.inj hq) dX6_copy_79
            · have hq := pv_neg c_71 hq
              exact B_45 w0 H locs ls hP hS (lv_sub hl [0] rfl) hq
          · rw [pv_cl2] at hq
            have hl : lv_has ls 6 [(0, .ref (a 0)), (1, .int 1), (2, .int x2), (3, .int 2), (4, .int x4), (5, .int x5)] := hl
            refine va_aldq (pc := 38) (D := E.1) hx hb hK hP 27 2 rfl rfl h_58 dX6_copy_38 ?_
            refine W.eq (g2 := F0 m 39 ls [.ref (a 32)]) rfl ?_
            refine pv_vRO (pc := 39) (rest := []) (st1 := [.int (m_X3_isMissing (w0.2.2.2.2.2.1 2))]) (ws := pv_wX E a w0) [] ⟨hx, hb, hml, hown, hts⟩ hE hA hS hP (hD w0) (c_X3_isMissing l E (a 32) (a 33) (w0.2.2.2.2.2.1 2)) (cwV 0 hts gX6_copy_X3_isMissing rfl rfl rfl (by decide +kernel) ⟨(Nat.le_of_ble_eq_true rfl), (Nat.le_of_ble_eq_true rfl)⟩) (va_recv hK hP (ci := 1) (q0 := 32) rfl rfl) [32, 33] rfl rfl rfl hl.1 rfl rfl (Nat.le_of_ble_eq_true rfl) dX6_copy_39 ⟨Nat.zero_le _, Nat.zero_le _⟩ (fun locs hS => ?_)
            refine lv_if_eq (pc := 42) (tgt := 52) hx hb dX6_copy_42 (by decide) (fun c_83 => ?_) (fun c_83 => ?_)
            · have hq := pv_pos c_83 hq
              refine lv_aload_n (pc := 52) hx hb dX6_copy_52 rfl (lv_at hl 0 rfl) ?_
              refine va_get (pc := 53) (D := E.1) (ci := 4) (v := .ref (a 27)) (C := RX6) (T := TX6) (N := 8) hx hb hts i_RX6 hown hK hP 0 rfl rfl 5 (Nat.le_of_ble_eq_true rfl) fl_38 (fun _ h9 => h9) rfl dX6_copy_53 ?_
              refine lv_iload_n (pc := 56) hx hb dX6_copy_56 rfl (lv_at hl 1 rfl) ?_
              obtain ⟨h_84, hq⟩ := pv_gd_some hq
              refine va_aldq (pc := 57) (D := E.1) hx hb hK hP 27 2 rfl rfl h_84 dX6_copy_57 ?_
              refine W.eq (g2 := F0 m 58 ls [.ref (a 30)]) rfl ?_
              refine va_get (pc := 58) (D := E.1) (ci := 1) (v := .int ((w0.2.2.2.2.2.1 1).1)) (C := RX3) (T := TX3) (N := 3) hx hb hts i_RX3 hown hK hP 30 rfl rfl 1 (Nat.le_of_ble_eq_true rfl) fl_225 (fun _ h9 => h9) rfl dX6_copy_58 ?_
              refine lv_aload_n (pc := 61) hx hb dX6_copy_61 rfl (lv_at hl 0 rfl) ?_
              refine va_get (pc := 62) (D := E.1) (ci := 4) (v := .ref (a 27)) (C := RX6) (T := TX6) (N := 8) hx hb hts i_RX6 hown hK hP 0 rfl rfl 5 (Nat.le_of_ble_eq_true rfl) fl_38 (fun _ h9 => h9) rfl dX6_copy_62 ?_
              refine lv_iload_n (pc := 65) hx hb dX6_copy_65 rfl (lv_at hl 3 rfl) ?_
              obtain ⟨h_85, hq⟩ := pv_gd_some hq
              refine va_aldq (pc := 66) (D := E.1) hx hb hK hP 27 2 rfl rfl h_85 dX6_copy_66 ?_
              refine W.eq (g2 := F0 m 67 ls [.ref (a 32), .int ((w0.2.2.2.2.2.1 1).1)]) rfl ?_
              refine va_get (pc := 67) (D := E.1) (ci := 1) (v := .int ((w0.2.2.2.2.2.1 2).1)) (C := RX3) (T := TX3) (N := 3) hx hb hts i_RX3 hown hK hP 32 rfl rfl 1 (Nat.le_of_ble_eq_true rfl) fl_225 (fun _ h9 => h9) rfl dX6_copy_67 ?_
              refine lv_icmp_eq (pc := 70) (tgt := 80) hx hb dX6_copy_70 (by decide) (fun c_86 => ?_) (fun c_86 => ?_)
              · have hq := pv_pos c_86 hq
                refine lv_aload_n (pc := 80) hx hb dX6_copy_80 rfl (lv_at hl 0 rfl) ?_
                refine va_get (pc := 81) (D := E.1) (ci := 4) (v := .ref (a 27)) (C := RX6) (T := TX6) (N := 8) hx hb hts i_RX6 hown hK hP 0 rfl rfl 5 (Nat.le_of_ble_eq_true rfl) fl_38 (fun _ h9 => h9) rfl dX6_copy_81 ?_
                refine lv_iload_n (pc := 84) hx hb dX6_copy_84 rfl (lv_at hl 1 rfl) ?_
                obtain ⟨h_87, hq⟩ := pv_gd_some hq
                refine va_aldq (pc := 85) (D := E.1) hx hb hK hP 27 2 rfl rfl h_87 dX6_copy_85 ?_
                refine W.eq (g2 := F0 m 86 ls [.ref (a 30)]) rfl ?_
                refine lv_iload_n (pc := 86) hx hb dX6_copy_86 rfl (lv_at hl 2 rfl) ?_
                refine lv_iload (pc := 87) hx hb dX6_copy_87 (lv_at hl 5 rfl) ?_
                refine pv_vRO (pc := 89) (rest := []) (st1 := [.int (m_X3_has x2 x5 (w0.2.2.2.2.2.1 1))]) (ws := pv_wX E a w0) [.int x2, .int x5] ⟨hx, hb, hml, hown, hts⟩ hE hA hS hP (hD w0) (c_X3_has l E (a 30) (a 31) x2 x5 (w0.2.2.2.2.2.1 1)) (cwV 2 hts gX6_copy_X3_has rfl rfl rfl (by decide +kernel) ⟨(Nat.le_of_ble_eq_true rfl), (Nat.le_of_ble_eq_true rfl)⟩) (va_recv hK hP (ci := 1) (q0 := 30) rfl rfl) [30, 31] rfl rfl rfl hl.1 rfl rfl (Nat.le_of_ble_eq_true rfl) dX6_copy_89 ⟨Nat.zero_le _, Nat.zero_le _⟩ (fun locs hS => ?_)
                refine lv_if_eq (pc := 92) (tgt := 111) hx hb dX6_copy_92 (by decide) (fun c_88 => ?_) (fun c_88 => ?_)
                · have hq := pv_pos c_88 hq
                  exact B_111 w0 H locs ls hP hS (lv_sub hl [0] rfl) hq
                · have hq := pv_neg c_88 hq
                  refine lv_aload_n (pc := 95) hx hb dX6_copy_95 rfl (lv_at hl 0 rfl) ?_
                  refine va_get (pc := 96) (D := E.1) (ci := 4) (v := .ref (a 27)) (C := RX6) (T := TX6) (N := 8) hx hb hts i_RX6 hown hK hP 0 rfl rfl 5 (Nat.le_of_ble_eq_true rfl) fl_38 (fun _ h9 => h9) rfl dX6_copy_96 ?_
                  refine lv_iload_n (pc := 99) hx hb dX6_copy_99 rfl (lv_at hl 3 rfl) ?_
                  obtain ⟨h_89, hq⟩ := pv_gd_some hq
                  refine va_aldq (pc := 100) (D := E.1) hx hb hK hP 27 2 rfl rfl h_89 dX6_copy_100 ?_
                  refine W.eq (g2 := F0 m 101 ls [.ref (a 32)]) rfl ?_
                  refine lv_iload (pc := 101) hx hb dX6_copy_101 (lv_at hl 4 rfl) ?_
                  refine lv_iload (pc := 103) hx hb dX6_copy_103 (lv_at hl 5 rfl) ?_
                  refine pv_vRO (pc := 105) (rest := []) (st1 := [.int (m_X3_has x4 x5 (w0.2.2.2.2.2.1 2))]) (ws := pv_wX E a w0) [.int x4, .int x5] ⟨hx, hb, hml, hown, hts⟩ hE hA hS hP (hD w0) (c_X3_has l E (a 32) (a 33) x4 x5 (w0.2.2.2.2.2.1 2)) (cwV 2 hts gX6_copy_X3_has rfl rfl rfl (by decide +kernel) ⟨(Nat.le_of_ble_eq_true rfl), (Nat.le_of_ble_eq_true rfl)⟩) (va_recv hK hP (ci := 1) (q0 := 32) rfl rfl) [32, 33] rfl rfl rfl hl.1 rfl rfl (Nat.le_of_ble_eq_true rfl) dX6_copy_105 ⟨Nat.zero_le _, Nat.zero_le _⟩ (fun locs hS => ?_)
                  refine lv_if_ne (pc := 108) (tgt := 118) hx hb dX6_copy_108 (by decide) (fun c_90 => ?_) (fun c_90 => ?_)
                  · have hq := pv_neg c_90 hq
                    refine lv_aload_n (pc := 118) hx hb dX6_copy_118 rfl (lv_at hl 0 rfl) ?_
                    refine va_get (pc := 119) (D := E.1) (ci := 4) (v := .ref (a 27)) (C := RX6) (T := TX6) (N := 8) hx hb hts i_RX6 hown hK hP 0 rfl rfl 5 (Nat.le_of_ble_eq_true rfl) fl_38 (fun _ h9 => h9) rfl dX6_copy_119 ?_
                    refine lv_iload_n (pc := 122) hx hb dX6_copy_122 rfl (lv_at hl 1 rfl) ?_
                    obtain ⟨h_91, hq⟩ := pv_gd_some hq
                    refine va_aldq (pc := 123) (D := E.1) hx hb hK hP 27 2 rfl rfl h_91 dX6_copy_123 ?_
                    refine W.eq (g2 := F0 m 124 ls [.ref (a 30)]) rfl ?_
                    refine va_get (pc := 124) (D := E.1) (ci := 1) (v := .ref (a 31)) (C := RX3) (T := TX3) (N := 3) hx hb hts i_RX3 hown hK hP 30 rfl rfl 0 (Nat.le_of_ble_eq_true rfl) fl_214 (fun _ h9 => h9) rfl dX6_copy_124 ?_
                    refine lv_iload_n (pc := 127) hx hb dX6_copy_127 rfl (lv_at hl 2 rfl) ?_
                    refine lv_aload_n (pc := 128) hx hb dX6_copy_128 rfl (lv_at hl 0 rfl) ?_
                    refine va_get (pc := 129) (D := E.1) (ci := 4) (v := .ref (a 27)) (C := RX6) (T := TX6) (N := 8) hx hb hts i_RX6 hown hK hP 0 rfl rfl 5 (Nat.le_of_ble_eq_true rfl) fl_38 (fun _ h9 => h9) rfl dX6_copy_129 ?_
                    refine lv_iload_n (pc := 132) hx hb dX6_copy_132 rfl (lv_at hl 3 rfl) ?_
                    obtain ⟨h_92, hq⟩ := pv_gd_some hq
                    refine va_aldq (pc := 133) (D := E.1) hx hb hK hP 27 2 rfl rfl h_92 dX6_copy_133 ?_
                    refine W.eq (g2 := F0 m 134 ls [.ref (a 32), .int x2, .ref (a 31)]) rfl ?_
                    refine va_get (pc := 134) (D := E.1) (ci := 1) (v := .ref (a 33)) (C := RX3) (T := TX3) (N := 3) hx hb hts i_RX3 hown hK hP 32 rfl rfl 0 (Nat.le_of_ble_eq_true rfl) fl_214 (fun _ h9 => h9) rfl dX6_copy_134 ?_
                    refine lv_iload (pc := 137) hx hb dX6_copy_137 (lv_at hl 4 rfl) ?_
                    refine lv_iload (pc := 139) hx hb dX6_copy_139 (lv_at hl 5 rfl) ?_
                    obtain ⟨h_93, hq⟩ := pv_gc_some hq
                    refine va_copyl (pc := 141) (D := E.1) hx hb (by rw [hml]; exact hl.1.symm) hown ac_l ac_n ac_s ac_i hK hP (hD w0) hS 31 33 1 1 rfl rfl rfl rfl rfl h_93.1 h_93.2.1 h_93.2.2.1 h_93.2.2.2.1 h_93.2.2.2.2 (fun _ _ => rfl) (Nat.le_of_ble_eq_true rfl) (by decide) dX6_copy_141 (fun H locs hP _ hS => ?_)
                    have hP : va_P E.1 vwCl (pv_wX E a (w0.1, w0.2.1, w0.2.2.1, w0.2.2.2.1, w0.2.2.2.2.1, (va_up w0.2.2.2.2.2.1 2 ((w0.2.2.2.2.2.1 2).1, (w0.2.2.2.2.2.1 2).2.1, (va_cpy (w0.2.2.2.2.2.1 1).2.2 (w0.2.2.2.2.2.1 2).2.2 x2.toNatClampNeg x4.toNatClampNeg x5.toNatClampNeg))), w0.2.2.2.2.2.2.1, w0.2.2.2.2.2.2.2)) H := hP
                    refine lv_iload (pc := 144) hx hb dX6_copy_144 (lv_at hl 5 rfl) ?_
                    exact pv_riRW (w := fun w : pv_XT => pv_wX E a w) hx hb hr hlk hAe hS hP (Option.some.inj hq) dX6_copy_146
                  · have hq := pv_pos c_90 hq
                    exact B_111 w0 H locs ls hP hS (lv_sub hl [0] rfl) hq
              · have hq := pv_neg c_86 hq
                refine lv_aload_n (pc := 73) hx hb dX6_copy_73 rfl (lv_at hl 0 rfl) ?_
                refine lv_ldc (pc := 74) hx hb hown lc_127 dX6_copy_74 ?_
                obtain ⟨u_94, hu_94, hq⟩ := pv_bind hq
                refine pv_vRWf (pc := 76) (rest := []) (st1 := [.int u_94.1]) (ws := pv_wX E a w0) [.int (-1000000003)] ⟨hx, hb, hml, hown, hts⟩ hE hA hS hP (hD w0) (c_X6_finding l E a (-1000000003) w0 u_94 hu_94) (cwV 1 hts gX6_copy_X6_finding rfl rfl rfl (by decide +kernel) ⟨(Nat.le_of_ble_eq_true rfl), (Nat.le_of_ble_eq_true rfl)⟩) (va_recv hK hP (ci := 4) (q0 := 0) rfl rfl) rfl hl.1 rfl rfl (Nat.le_of_ble_eq_true rfl) dX6_copy_76 ⟨Nat.zero_le _, Nat.zero_le _⟩ (fun H locs hP hS => ?_)
                have hP : va_P E.1 vwCl (pv_wX E a u_94.2) H := hP
                exact pv_riRW (w := fun w : pv_XT => pv_wX E a w) hx hb hr hlk hAe hS hP (Option.some.inj hq) dX6_copy_79
            · have hq := pv_neg c_83 hq
              exact B_45 w0 H locs ls hP hS (lv_sub hl [0] rfl) hq
          · rw [pv_cl3] at hq
            have hl : lv_has ls 6 [(0, .ref (a 0)), (1, .int 1), (2, .int x2), (3, .int 3), (4, .int x4), (5, .int x5)] := hl
            refine va_aldq (pc := 38) (D := E.1) hx hb hK hP 27 2 rfl rfl h_58 dX6_copy_38 ?_
            refine W.eq (g2 := F0 m 39 ls [.ref (a 34)]) rfl ?_
            refine pv_vRO (pc := 39) (rest := []) (st1 := [.int (m_X3_isMissing (w0.2.2.2.2.2.1 3))]) (ws := pv_wX E a w0) [] ⟨hx, hb, hml, hown, hts⟩ hE hA hS hP (hD w0) (c_X3_isMissing l E (a 34) (a 35) (w0.2.2.2.2.2.1 3)) (cwV 0 hts gX6_copy_X3_isMissing rfl rfl rfl (by decide +kernel) ⟨(Nat.le_of_ble_eq_true rfl), (Nat.le_of_ble_eq_true rfl)⟩) (va_recv hK hP (ci := 1) (q0 := 34) rfl rfl) [34, 35] rfl rfl rfl hl.1 rfl rfl (Nat.le_of_ble_eq_true rfl) dX6_copy_39 ⟨Nat.zero_le _, Nat.zero_le _⟩ (fun locs hS => ?_)
            refine lv_if_eq (pc := 42) (tgt := 52) hx hb dX6_copy_42 (by decide) (fun c_95 => ?_) (fun c_95 => ?_)
            · have hq := pv_pos c_95 hq
              refine lv_aload_n (pc := 52) hx hb dX6_copy_52 rfl (lv_at hl 0 rfl) ?_
              refine va_get (pc := 53) (D := E.1) (ci := 4) (v := .ref (a 27)) (C := RX6) (T := TX6) (N := 8) hx hb hts i_RX6 hown hK hP 0 rfl rfl 5 (Nat.le_of_ble_eq_true rfl) fl_38 (fun _ h9 => h9) rfl dX6_copy_53 ?_
              refine lv_iload_n (pc := 56) hx hb dX6_copy_56 rfl (lv_at hl 1 rfl) ?_
              obtain ⟨h_96, hq⟩ := pv_gd_some hq
              refine va_aldq (pc := 57) (D := E.1) hx hb hK hP 27 2 rfl rfl h_96 dX6_copy_57 ?_
              refine W.eq (g2 := F0 m 58 ls [.ref (a 30)]) rfl ?_
              refine va_get (pc := 58) (D := E.1) (ci := 1) (v := .int ((w0.2.2.2.2.2.1 1).1)) (C := RX3) (T := TX3) (N := 3) hx hb hts i_RX3 hown hK hP 30 rfl rfl 1 (Nat.le_of_ble_eq_true rfl) fl_225 (fun _ h9 => h9) rfl dX6_copy_58 ?_
              refine lv_aload_n (pc := 61) hx hb dX6_copy_61 rfl (lv_at hl 0 rfl) ?_
              refine va_get (pc := 62) (D := E.1) (ci := 4) (v := .ref (a 27)) (C := RX6) (T := TX6) (N := 8) hx hb hts i_RX6 hown hK hP 0 rfl rfl 5 (Nat.le_of_ble_eq_true rfl) fl_38 (fun _ h9 => h9) rfl dX6_copy_62 ?_
              refine lv_iload_n (pc := 65) hx hb dX6_copy_65 rfl (lv_at hl 3 rfl) ?_
              obtain ⟨h_97, hq⟩ := pv_gd_some hq
              refine va_aldq (pc := 66) (D := E.1) hx hb hK hP 27 2 rfl rfl h_97 dX6_copy_66 ?_
              refine W.eq (g2 := F0 m 67 ls [.ref (a 34), .int ((w0.2.2.2.2.2.1 1).1)]) rfl ?_
              refine va_get (pc := 67) (D := E.1) (ci := 1) (v := .int ((w0.2.2.2.2.2.1 3).1)) (C := RX3) (T := TX3) (N := 3) hx hb hts i_RX3 hown hK hP 34 rfl rfl 1 (Nat.le_of_ble_eq_true rfl) fl_225 (fun _ h9 => h9) rfl dX6_copy_67 ?_
              refine lv_icmp_eq (pc := 70) (tgt := 80) hx hb dX6_copy_70 (by decide) (fun c_98 => ?_) (fun c_98 => ?_)
              · have hq := pv_pos c_98 hq
                refine lv_aload_n (pc := 80) hx hb dX6_copy_80 rfl (lv_at hl 0 rfl) ?_
                refine va_get (pc := 81) (D := E.1) (ci := 4) (v := .ref (a 27)) (C := RX6) (T := TX6) (N := 8) hx hb hts i_RX6 hown hK hP 0 rfl rfl 5 (Nat.le_of_ble_eq_true rfl) fl_38 (fun _ h9 => h9) rfl dX6_copy_81 ?_
                refine lv_iload_n (pc := 84) hx hb dX6_copy_84 rfl (lv_at hl 1 rfl) ?_
                obtain ⟨h_99, hq⟩ := pv_gd_some hq
                refine va_aldq (pc := 85) (D := E.1) hx hb hK hP 27 2 rfl rfl h_99 dX6_copy_85 ?_
                refine W.eq (g2 := F0 m 86 ls [.ref (a 30)]) rfl ?_
                refine lv_iload_n (pc := 86) hx hb dX6_copy_86 rfl (lv_at hl 2 rfl) ?_
                refine lv_iload (pc := 87) hx hb dX6_copy_87 (lv_at hl 5 rfl) ?_
                refine pv_vRO (pc := 89) (rest := []) (st1 := [.int (m_X3_has x2 x5 (w0.2.2.2.2.2.1 1))]) (ws := pv_wX E a w0) [.int x2, .int x5] ⟨hx, hb, hml, hown, hts⟩ hE hA hS hP (hD w0) (c_X3_has l E (a 30) (a 31) x2 x5 (w0.2.2.2.2.2.1 1)) (cwV 2 hts gX6_copy_X3_has rfl rfl rfl (by decide +kernel) ⟨(Nat.le_of_ble_eq_true rfl), (Nat.le_of_ble_eq_true rfl)⟩) (va_recv hK hP (ci := 1) (q0 := 30) rfl rfl) [30, 31] rfl rfl rfl hl.1 rfl rfl (Nat.le_of_ble_eq_true rfl) dX6_copy_89 ⟨Nat.zero_le _, Nat.zero_le _⟩ (fun locs hS => ?_)
                refine lv_if_eq (pc := 92) (tgt := 111) hx hb dX6_copy_92 (by decide) (fun c_100 => ?_) (fun c_100 => ?_)
                · have hq := pv_pos c_100 hq
                  exact B_111 w0 H locs ls hP hS (lv_sub hl [0] rfl) hq
                · have hq := pv_neg c_100 hq
                  refine lv_aload_n (pc := 95) hx hb dX6_copy_95 rfl (lv_at hl 0 rfl) ?_
                  refine va_get (pc := 96) (D := E.1) (ci := 4) (v := .ref (a 27)) (C := RX6) (T := TX6) (N := 8) hx hb hts i_RX6 hown hK hP 0 rfl rfl 5 (Nat.le_of_ble_eq_true rfl) fl_38 (fun _ h9 => h9) rfl dX6_copy_96 ?_
                  refine lv_iload_n (pc := 99) hx hb dX6_copy_99 rfl (lv_at hl 3 rfl) ?_
                  obtain ⟨h_101, hq⟩ := pv_gd_some hq
                  refine va_aldq (pc := 100) (D := E.1) hx hb hK hP 27 2 rfl rfl h_101 dX6_copy_100 ?_
                  refine W.eq (g2 := F0 m 101 ls [.ref (a 34)]) rfl ?_
                  refine lv_iload (pc := 101) hx hb dX6_copy_101 (lv_at hl 4 rfl) ?_
                  refine lv_iload (pc := 103) hx hb dX6_copy_103 (lv_at hl 5 rfl) ?_
                  refine pv_vRO (pc := 105) (rest := []) (st1 := [.int (m_X3_has x4 x5 (w0.2.2.2.2.2.1 3))]) (ws := pv_wX E a w0) [.int x4, .int x5] ⟨hx, hb, hml, hown, hts⟩ hE hA hS hP (hD w0) (c_X3_has l E (a 34) (a 35) x4 x5 (w0.2.2.2.2.2.1 3)) (cwV 2 hts gX6_copy_X3_has rfl rfl rfl (by decide +kernel) ⟨(Nat.le_of_ble_eq_true rfl), (Nat.le_of_ble_eq_true rfl)⟩) (va_recv hK hP (ci := 1) (q0 := 34) rfl rfl) [34, 35] rfl rfl rfl hl.1 rfl rfl (Nat.le_of_ble_eq_true rfl) dX6_copy_105 ⟨Nat.zero_le _, Nat.zero_le _⟩ (fun locs hS => ?_)
                  refine lv_if_ne (pc := 108) (tgt := 118) hx hb dX6_copy_108 (by decide) (fun c_102 => ?_) (fun c_102 => ?_)
                  · have hq := pv_neg c_102 hq
                    refine lv_aload_n (pc := 118) hx hb dX6_copy_118 rfl (lv_at hl 0 rfl) ?_
                    refine va_get (pc := 119) (D := E.1) (ci := 4) (v := .ref (a 27)) (C := RX6) (T := TX6) (N := 8) hx hb hts i_RX6 hown hK hP 0 rfl rfl 5 (Nat.le_of_ble_eq_true rfl) fl_38 (fun _ h9 => h9) rfl dX6_copy_119 ?_
                    refine lv_iload_n (pc := 122) hx hb dX6_copy_122 rfl (lv_at hl 1 rfl) ?_
                    obtain ⟨h_103, hq⟩ := pv_gd_some hq
                    refine va_aldq (pc := 123) (D := E.1) hx hb hK hP 27 2 rfl rfl h_103 dX6_copy_123 ?_
                    refine W.eq (g2 := F0 m 124 ls [.ref (a 30)]) rfl ?_
                    refine va_get (pc := 124) (D := E.1) (ci := 1) (v := .ref (a 31)) (C := RX3) (T := TX3) (N := 3) hx hb hts i_RX3 hown hK hP 30 rfl rfl 0 (Nat.le_of_ble_eq_true rfl) fl_214 (fun _ h9 => h9) rfl dX6_copy_124 ?_
                    refine lv_iload_n (pc := 127) hx hb dX6_copy_127 rfl (lv_at hl 2 rfl) ?_
                    refine lv_aload_n (pc := 128) hx hb dX6_copy_128 rfl (lv_at hl 0 rfl) ?_
                    refine va_get (pc := 129) (D := E.1) (ci := 4) (v := .ref (a 27)) (C := RX6) (T := TX6) (N := 8) hx hb hts i_RX6 hown hK hP 0 rfl rfl 5 (Nat.le_of_ble_eq_true rfl) fl_38 (fun _ h9 => h9) rfl dX6_copy_129 ?_
                    refine lv_iload_n (pc := 132) hx hb dX6_copy_132 rfl (lv_at hl 3 rfl) ?_
                    obtain ⟨h_104, hq⟩ := pv_gd_some hq
                    refine va_aldq (pc := 133) (D := E.1) hx hb hK hP 27 2 rfl rfl h_104 dX6_copy_133 ?_
                    refine W.eq (g2 := F0 m 134 ls [.ref (a 34), .int x2, .ref (a 31)]) rfl ?_
                    refine va_get (pc := 134) (D := E.1) (ci := 1) (v := .ref (a 35)) (C := RX3) (T := TX3) (N := 3) hx hb hts i_RX3 hown hK hP 34 rfl rfl 0 (Nat.le_of_ble_eq_true rfl) fl_214 (fun _ h9 => h9) rfl dX6_copy_134 ?_
                    refine lv_iload (pc := 137) hx hb dX6_copy_137 (lv_at hl 4 rfl) ?_
                    refine lv_iload (pc := 139) hx hb dX6_copy_139 (lv_at hl 5 rfl) ?_
                    obtain ⟨h_105, hq⟩ := pv_gc_some hq
                    refine va_copyl (pc := 141) (D := E.1) hx hb (by rw [hml]; exact hl.1.symm) hown ac_l ac_n ac_s ac_i hK hP (hD w0) hS 31 35 1 1 rfl rfl rfl rfl rfl h_105.1 h_105.2.1 h_105.2.2.1 h_105.2.2.2.1 h_105.2.2.2.2 (fun _ _ => rfl) (Nat.le_of_ble_eq_true rfl) (by decide) dX6_copy_141 (fun H locs hP _ hS => ?_)
                    have hP : va_P E.1 vwCl (pv_wX E a (w0.1, w0.2.1, w0.2.2.1, w0.2.2.2.1, w0.2.2.2.2.1, (va_up w0.2.2.2.2.2.1 3 ((w0.2.2.2.2.2.1 3).1, (w0.2.2.2.2.2.1 3).2.1, (va_cpy (w0.2.2.2.2.2.1 1).2.2 (w0.2.2.2.2.2.1 3).2.2 x2.toNatClampNeg x4.toNatClampNeg x5.toNatClampNeg))), w0.2.2.2.2.2.2.1, w0.2.2.2.2.2.2.2)) H := hP
                    refine lv_iload (pc := 144) hx hb dX6_copy_144 (lv_at hl 5 rfl) ?_
                    exact pv_riRW (w := fun w : pv_XT => pv_wX E a w) hx hb hr hlk hAe hS hP (Option.some.inj hq) dX6_copy_146
                  · have hq := pv_pos c_102 hq
                    exact B_111 w0 H locs ls hP hS (lv_sub hl [0] rfl) hq
              · have hq := pv_neg c_98 hq
                refine lv_aload_n (pc := 73) hx hb dX6_copy_73 rfl (lv_at hl 0 rfl) ?_
                refine lv_ldc (pc := 74) hx hb hown lc_127 dX6_copy_74 ?_
                obtain ⟨u_106, hu_106, hq⟩ := pv_bind hq
                refine pv_vRWf (pc := 76) (rest := []) (st1 := [.int u_106.1]) (ws := pv_wX E a w0) [.int (-1000000003)] ⟨hx, hb, hml, hown, hts⟩ hE hA hS hP (hD w0) (c_X6_finding l E a (-1000000003) w0 u_106 hu_106) (cwV 1 hts gX6_copy_X6_finding rfl rfl rfl (by decide +kernel) ⟨(Nat.le_of_ble_eq_true rfl), (Nat.le_of_ble_eq_true rfl)⟩) (va_recv hK hP (ci := 4) (q0 := 0) rfl rfl) rfl hl.1 rfl rfl (Nat.le_of_ble_eq_true rfl) dX6_copy_76 ⟨Nat.zero_le _, Nat.zero_le _⟩ (fun H locs hP hS => ?_)
                have hP : va_P E.1 vwCl (pv_wX E a u_106.2) H := hP
                exact pv_riRW (w := fun w : pv_XT => pv_wX E a w) hx hb hr hlk hAe hS hP (Option.some.inj hq) dX6_copy_79
            · have hq := pv_neg c_95 hq
              exact B_45 w0 H locs ls hP hS (lv_sub hl [0] rfl) hq
      · rw [pv_cl2] at hq
        have hl : lv_has ls 6 [(0, .ref (a 0)), (1, .int 2), (2, .int x2), (3, .int x3), (4, .int x4), (5, .int x5)] := hl
        refine va_aldq (pc := 26) (D := E.1) hx hb hK hP 27 2 rfl rfl h_4 dX6_copy_26 ?_
        refine W.eq (g2 := F0 m 27 ls [.ref (a 32)]) rfl ?_
        refine pv_vRO (pc := 27) (rest := []) (st1 := [.int (m_X3_isMissing (w0.2.2.2.2.2.1 2))]) (ws := pv_wX E a w0) [] ⟨hx, hb, hml, hown, hts⟩ hE hA hS hP (hD w0) (c_X3_isMissing l E (a 32) (a 33) (w0.2.2.2.2.2.1 2)) (cwV 0 hts gX6_copy_X3_isMissing rfl rfl rfl (by decide +kernel) ⟨(Nat.le_of_ble_eq_true rfl), (Nat.le_of_ble_eq_true rfl)⟩) (va_recv hK hP (ci := 1) (q0 := 32) rfl rfl) [32, 33] rfl rfl rfl hl.1 rfl rfl (Nat.le_of_ble_eq_true rfl) dX6_copy_27 ⟨Nat.zero_le _, Nat.zero_le _⟩ (fun locs hS => ?_)
        refine lv_if_ne (pc := 30) (tgt := 45) hx hb dX6_copy_30 (by decide) (fun c_107 => ?_) (fun c_107 => ?_)
        · have hq := pv_neg c_107 hq
          exact B_45 w0 H locs ls hP hS (lv_sub hl [0] rfl) hq
        · have hq := pv_pos c_107 hq
          refine lv_aload_n (pc := 33) hx hb dX6_copy_33 rfl (lv_at hl 0 rfl) ?_
          refine va_get (pc := 34) (D := E.1) (ci := 4) (v := .ref (a 27)) (C := RX6) (T := TX6) (N := 8) hx hb hts i_RX6 hown hK hP 0 rfl rfl 5 (Nat.le_of_ble_eq_true rfl) fl_38 (fun _ h9 => h9) rfl dX6_copy_34 ?_
          refine lv_iload_n (pc := 37) hx hb dX6_copy_37 rfl (lv_at hl 3 rfl) ?_
          obtain ⟨h_108, hq⟩ := pv_gd_some hq
          rcases pv_sh4 h_108 with rfl | rfl | rfl | rfl
          · rw [pv_cl0] at hq
            have hl : lv_has ls 6 [(0, .ref (a 0)), (1, .int 2), (2, .int x2), (3, .int 0), (4, .int x4), (5, .int x5)] := hl
            refine va_aldq (pc := 38) (D := E.1) hx hb hK hP 27 2 rfl rfl h_108 dX6_copy_38 ?_
            refine W.eq (g2 := F0 m 39 ls [.ref (a 28)]) rfl ?_
            refine pv_vRO (pc := 39) (rest := []) (st1 := [.int (m_X3_isMissing (w0.2.2.2.2.2.1 0))]) (ws := pv_wX E a w0) [] ⟨hx, hb, hml, hown, hts⟩ hE hA hS hP (hD w0) (c_X3_isMissing l E (a 28) (a 29) (w0.2.2.2.2.2.1 0)) (cwV 0 hts gX6_copy_X3_isMissing rfl rfl rfl (by decide +kernel) ⟨(Nat.le_of_ble_eq_true rfl), (Nat.le_of_ble_eq_true rfl)⟩) (va_recv hK hP (ci := 1) (q0 := 28) rfl rfl) [28, 29] rfl rfl rfl hl.1 rfl rfl (Nat.le_of_ble_eq_true rfl) dX6_copy_39 ⟨Nat.zero_le _, Nat.zero_le _⟩ (fun locs hS => ?_)
            refine lv_if_eq (pc := 42) (tgt := 52) hx hb dX6_copy_42 (by decide) (fun c_109 => ?_) (fun c_109 => ?_)
            · have hq := pv_pos c_109 hq
              refine lv_aload_n (pc := 52) hx hb dX6_copy_52 rfl (lv_at hl 0 rfl) ?_
              refine va_get (pc := 53) (D := E.1) (ci := 4) (v := .ref (a 27)) (C := RX6) (T := TX6) (N := 8) hx hb hts i_RX6 hown hK hP 0 rfl rfl 5 (Nat.le_of_ble_eq_true rfl) fl_38 (fun _ h9 => h9) rfl dX6_copy_53 ?_
              refine lv_iload_n (pc := 56) hx hb dX6_copy_56 rfl (lv_at hl 1 rfl) ?_
              obtain ⟨h_110, hq⟩ := pv_gd_some hq
              refine va_aldq (pc := 57) (D := E.1) hx hb hK hP 27 2 rfl rfl h_110 dX6_copy_57 ?_
              refine W.eq (g2 := F0 m 58 ls [.ref (a 32)]) rfl ?_
              refine va_get (pc := 58) (D := E.1) (ci := 1) (v := .int ((w0.2.2.2.2.2.1 2).1)) (C := RX3) (T := TX3) (N := 3) hx hb hts i_RX3 hown hK hP 32 rfl rfl 1 (Nat.le_of_ble_eq_true rfl) fl_225 (fun _ h9 => h9) rfl dX6_copy_58 ?_
              refine lv_aload_n (pc := 61) hx hb dX6_copy_61 rfl (lv_at hl 0 rfl) ?_
              refine va_get (pc := 62) (D := E.1) (ci := 4) (v := .ref (a 27)) (C := RX6) (T := TX6) (N := 8) hx hb hts i_RX6 hown hK hP 0 rfl rfl 5 (Nat.le_of_ble_eq_true rfl) fl_38 (fun _ h9 => h9) rfl dX6_copy_62 ?_
              refine lv_iload_n (pc := 65) hx hb dX6_copy_65 rfl (lv_at hl 3 rfl) ?_
              obtain ⟨h_111, hq⟩ := pv_gd_some hq
              refine va_aldq (pc := 66) (D := E.1) hx hb hK hP 27 2 rfl rfl h_111 dX6_copy_66 ?_
              refine W.eq (g2 := F0 m 67 ls [.ref (a 28), .int ((w0.2.2.2.2.2.1 2).1)]) rfl ?_
              refine va_get (pc := 67) (D := E.1) (ci := 1) (v := .int ((w0.2.2.2.2.2.1 0).1)) (C := RX3) (T := TX3) (N := 3) hx hb hts i_RX3 hown hK hP 28 rfl rfl 1 (Nat.le_of_ble_eq_true rfl) fl_225 (fun _ h9 => h9) rfl dX6_copy_67 ?_
              refine lv_icmp_eq (pc := 70) (tgt := 80) hx hb dX6_copy_70 (by decide) (fun c_112 => ?_) (fun c_112 => ?_)
              · have hq := pv_pos c_112 hq
                refine lv_aload_n (pc := 80) hx hb dX6_copy_80 rfl (lv_at hl 0 rfl) ?_
                refine va_get (pc := 81) (D := E.1) (ci := 4) (v := .ref (a 27)) (C := RX6) (T := TX6) (N := 8) hx hb hts i_RX6 hown hK hP 0 rfl rfl 5 (Nat.le_of_ble_eq_true rfl) fl_38 (fun _ h9 => h9) rfl dX6_copy_81 ?_
                refine lv_iload_n (pc := 84) hx hb dX6_copy_84 rfl (lv_at hl 1 rfl) ?_
                obtain ⟨h_113, hq⟩ := pv_gd_some hq
                refine va_aldq (pc := 85) (D := E.1) hx hb hK hP 27 2 rfl rfl h_113 dX6_copy_85 ?_
                refine W.eq (g2 := F0 m 86 ls [.ref (a 32)]) rfl ?_
                refine lv_iload_n (pc := 86) hx hb dX6_copy_86 rfl (lv_at hl 2 rfl) ?_
                refine lv_iload (pc := 87) hx hb dX6_copy_87 (lv_at hl 5 rfl) ?_
                refine pv_vRO (pc := 89) (rest := []) (st1 := [.int (m_X3_has x2 x5 (w0.2.2.2.2.2.1 2))]) (ws := pv_wX E a w0) [.int x2, .int x5] ⟨hx, hb, hml, hown, hts⟩ hE hA hS hP (hD w0) (c_X3_has l E (a 32) (a 33) x2 x5 (w0.2.2.2.2.2.1 2)) (cwV 2 hts gX6_copy_X3_has rfl rfl rfl (by decide +kernel) ⟨(Nat.le_of_ble_eq_true rfl), (Nat.le_of_ble_eq_true rfl)⟩) (va_recv hK hP (ci := 1) (q0 := 32) rfl rfl) [32, 33] rfl rfl rfl hl.1 rfl rfl (Nat.le_of_ble_eq_true rfl) dX6_copy_89 ⟨Nat.zero_le _, Nat.zero_le _⟩ (fun locs hS => ?_)
                refine lv_if_eq (pc := 92) (tgt := 111) hx hb dX6_copy_92 (by decide) (fun c_114 => ?_) (fun c_114 => ?_)
                · have hq := pv_pos c_114 hq
                  exact B_111 w0 H locs ls hP hS (lv_sub hl [0] rfl) hq
                · have hq := pv_neg c_114 hq
                  refine lv_aload_n (pc := 95) hx hb dX6_copy_95 rfl (lv_at hl 0 rfl) ?_
                  refine va_get (pc := 96) (D := E.1) (ci := 4) (v := .ref (a 27)) (C := RX6) (T := TX6) (N := 8) hx hb hts i_RX6 hown hK hP 0 rfl rfl 5 (Nat.le_of_ble_eq_true rfl) fl_38 (fun _ h9 => h9) rfl dX6_copy_96 ?_
                  refine lv_iload_n (pc := 99) hx hb dX6_copy_99 rfl (lv_at hl 3 rfl) ?_
                  obtain ⟨h_115, hq⟩ := pv_gd_some hq
                  refine va_aldq (pc := 100) (D := E.1) hx hb hK hP 27 2 rfl rfl h_115 dX6_copy_100 ?_
                  refine W.eq (g2 := F0 m 101 ls [.ref (a 28)]) rfl ?_
                  refine lv_iload (pc := 101) hx hb dX6_copy_101 (lv_at hl 4 rfl) ?_
                  refine lv_iload (pc := 103) hx hb dX6_copy_103 (lv_at hl 5 rfl) ?_
                  refine pv_vRO (pc := 105) (rest := []) (st1 := [.int (m_X3_has x4 x5 (w0.2.2.2.2.2.1 0))]) (ws := pv_wX E a w0) [.int x4, .int x5] ⟨hx, hb, hml, hown, hts⟩ hE hA hS hP (hD w0) (c_X3_has l E (a 28) (a 29) x4 x5 (w0.2.2.2.2.2.1 0)) (cwV 2 hts gX6_copy_X3_has rfl rfl rfl (by decide +kernel) ⟨(Nat.le_of_ble_eq_true rfl), (Nat.le_of_ble_eq_true rfl)⟩) (va_recv hK hP (ci := 1) (q0 := 28) rfl rfl) [28, 29] rfl rfl rfl hl.1 rfl rfl (Nat.le_of_ble_eq_true rfl) dX6_copy_105 ⟨Nat.zero_le _, Nat.zero_le _⟩ (fun locs hS => ?_)
                  refine lv_if_ne (pc := 108) (tgt := 118) hx hb dX6_copy_108 (by decide) (fun c_116 => ?_) (fun c_116 => ?_)
                  · have hq := pv_neg c_116 hq
                    refine lv_aload_n (pc := 118) hx hb dX6_copy_118 rfl (lv_at hl 0 rfl) ?_
                    refine va_get (pc := 119) (D := E.1) (ci := 4) (v := .ref (a 27)) (C := RX6) (T := TX6) (N := 8) hx hb hts i_RX6 hown hK hP 0 rfl rfl 5 (Nat.le_of_ble_eq_true rfl) fl_38 (fun _ h9 => h9) rfl dX6_copy_119 ?_
                    refine lv_iload_n (pc := 122) hx hb dX6_copy_122 rfl (lv_at hl 1 rfl) ?_
                    obtain ⟨h_117, hq⟩ := pv_gd_some hq
                    refine va_aldq (pc := 123) (D := E.1) hx hb hK hP 27 2 rfl rfl h_117 dX6_copy_123 ?_
                    refine W.eq (g2 := F0 m 124 ls [.ref (a 32)]) rfl ?_
                    refine va_get (pc := 124) (D := E.1) (ci := 1) (v := .ref (a 33)) (C := RX3) (T := TX3) (N := 3) hx hb hts i_RX3 hown hK hP 32 rfl rfl 0 (Nat.le_of_ble_eq_true rfl) fl_214 (fun _ h9 => h9) rfl dX6_copy_124 ?_
                    refine lv_iload_n (pc := 127) hx hb dX6_copy_127 rfl (lv_at hl 2 rfl) ?_
                    refine lv_aload_n (pc := 128) hx hb dX6_copy_128 rfl (lv_at hl 0 rfl) ?_
                    refine va_get (pc := 129) (D := E.1) (ci := 4) (v := .ref (a 27)) (C := RX6) (T := TX6) (N := 8) hx hb hts i_RX6 hown hK hP 0 rfl rfl 5 (Nat.le_of_ble_eq_true rfl) fl_38 (fun _ h9 => h9) rfl dX6_copy_129 ?_
                    refine lv_iload_n (pc := 132) hx hb dX6_copy_132 rfl (lv_at hl 3 rfl) ?_
                    obtain ⟨h_118, hq⟩ := pv_gd_some hq
                    refine va_aldq (pc := 133) (D := E.1) hx hb hK hP 27 2 rfl rfl h_118 dX6_copy_133 ?_
                    refine W.eq (g2 := F0 m 134 ls [.ref (a 28), .int x2, .ref (a 33)]) rfl ?_
                    refine va_get (pc := 134) (D := E.1) (ci := 1) (v := .ref (a 29)) (C := RX3) (T := TX3) (N := 3) hx hb hts i_RX3 hown hK hP 28 rfl rfl 0 (Nat.le_of_ble_eq_true rfl) fl_214 (fun _ h9 => h9) rfl dX6_copy_134 ?_
                    refine lv_iload (pc := 137) hx hb dX6_copy_137 (lv_at hl 4 rfl) ?_
                    refine lv_iload (pc := 139) hx hb dX6_copy_139 (lv_at hl 5 rfl) ?_
                    obtain ⟨h_119, hq⟩ := pv_gc_some hq
                    refine va_copyl (pc := 141) (D := E.1) hx hb (by rw [hml]; exact hl.1.symm) hown ac_l ac_n ac_s ac_i hK hP (hD w0) hS 33 29 1 1 rfl rfl rfl rfl rfl h_119.1 h_119.2.1 h_119.2.2.1 h_119.2.2.2.1 h_119.2.2.2.2 (fun _ _ => rfl) (Nat.le_of_ble_eq_true rfl) (by decide) dX6_copy_141 (fun H locs hP _ hS => ?_)
                    have hP : va_P E.1 vwCl (pv_wX E a (w0.1, w0.2.1, w0.2.2.1, w0.2.2.2.1, w0.2.2.2.2.1, (va_up w0.2.2.2.2.2.1 0 ((w0.2.2.2.2.2.1 0).1, (w0.2.2.2.2.2.1 0).2.1, (va_cpy (w0.2.2.2.2.2.1 2).2.2 (w0.2.2.2.2.2.1 0).2.2 x2.toNatClampNeg x4.toNatClampNeg x5.toNatClampNeg))), w0.2.2.2.2.2.2.1, w0.2.2.2.2.2.2.2)) H := hP
                    refine lv_iload (pc := 144) hx hb dX6_copy_144 (lv_at hl 5 rfl) ?_
                    exact pv_riRW (w := fun w : pv_XT => pv_wX E a w) hx hb hr hlk hAe hS hP (Option.some.inj hq) dX6_copy_146
                  · have hq := pv_pos c_116 hq
                    exact B_111 w0 H locs ls hP hS (lv_sub hl [0] rfl) hq
              · have hq := pv_neg c_112 hq
                refine lv_aload_n (pc := 73) hx hb dX6_copy_73 rfl (lv_at hl 0 rfl) ?_
                refine lv_ldc (pc := 74) hx hb hown lc_127 dX6_copy_74 ?_
                obtain ⟨u_120, hu_120, hq⟩ := pv_bind hq
                refine pv_vRWf (pc := 76) (rest := []) (st1 := [.int u_120.1]) (ws := pv_wX E a w0) [.int (-1000000003)] ⟨hx, hb, hml, hown, hts⟩ hE hA hS hP (hD w0) (c_X6_finding l E a (-1000000003) w0 u_120 hu_120) (cwV 1 hts gX6_copy_X6_finding rfl rfl rfl (by decide +kernel) ⟨(Nat.le_of_ble_eq_true rfl), (Nat.le_of_ble_eq_true rfl)⟩) (va_recv hK hP (ci := 4) (q0 := 0) rfl rfl) rfl hl.1 rfl rfl (Nat.le_of_ble_eq_true rfl) dX6_copy_76 ⟨Nat.zero_le _, Nat.zero_le _⟩ (fun H locs hP hS => ?_)
                have hP : va_P E.1 vwCl (pv_wX E a u_120.2) H := hP
                exact pv_riRW (w := fun w : pv_XT => pv_wX E a w) hx hb hr hlk hAe hS hP (Option.some.inj hq) dX6_copy_79
            · have hq := pv_neg c_109 hq
              exact B_45 w0 H locs ls hP hS (lv_sub hl [0] rfl) hq
          · rw [pv_cl1] at hq
            have hl : lv_has ls 6 [(0, .ref (a 0)), (1, .int 2), (2, .int x2), (3, .int 1), (4, .int x4), (5, .int x5)] := hl
            refine va_aldq (pc := 38) (D := E.1) hx hb hK hP 27 2 rfl rfl h_108 dX6_copy_38 ?_
            refine W.eq (g2 := F0 m 39 ls [.ref (a 30)]) rfl ?_
            refine pv_vRO (pc := 39) (rest := []) (st1 := [.int (m_X3_isMissing (w0.2.2.2.2.2.1 1))]) (ws := pv_wX E a w0) [] ⟨hx, hb, hml, hown, hts⟩ hE hA hS hP (hD w0) (c_X3_isMissing l E (a 30) (a 31) (w0.2.2.2.2.2.1 1)) (cwV 0 hts gX6_copy_X3_isMissing rfl rfl rfl (by decide +kernel) ⟨(Nat.le_of_ble_eq_true rfl), (Nat.le_of_ble_eq_true rfl)⟩) (va_recv hK hP (ci := 1) (q0 := 30) rfl rfl) [30, 31] rfl rfl rfl hl.1 rfl rfl (Nat.le_of_ble_eq_true rfl) dX6_copy_39 ⟨Nat.zero_le _, Nat.zero_le _⟩ (fun locs hS => ?_)
            refine lv_if_eq (pc := 42) (tgt := 52) hx hb dX6_copy_42 (by decide) (fun c_121 => ?_) (fun c_121 => ?_)
            · have hq := pv_pos c_121 hq
              refine lv_aload_n (pc := 52) hx hb dX6_copy_52 rfl (lv_at hl 0 rfl) ?_
              refine va_get (pc := 53) (D := E.1) (ci := 4) (v := .ref (a 27)) (C := RX6) (T := TX6) (N := 8) hx hb hts i_RX6 hown hK hP 0 rfl rfl 5 (Nat.le_of_ble_eq_true rfl) fl_38 (fun _ h9 => h9) rfl dX6_copy_53 ?_
              refine lv_iload_n (pc := 56) hx hb dX6_copy_56 rfl (lv_at hl 1 rfl) ?_
              obtain ⟨h_122, hq⟩ := pv_gd_some hq
              refine va_aldq (pc := 57) (D := E.1) hx hb hK hP 27 2 rfl rfl h_122 dX6_copy_57 ?_
              refine W.eq (g2 := F0 m 58 ls [.ref (a 32)]) rfl ?_
              refine va_get (pc := 58) (D := E.1) (ci := 1) (v := .int ((w0.2.2.2.2.2.1 2).1)) (C := RX3) (T := TX3) (N := 3) hx hb hts i_RX3 hown hK hP 32 rfl rfl 1 (Nat.le_of_ble_eq_true rfl) fl_225 (fun _ h9 => h9) rfl dX6_copy_58 ?_
              refine lv_aload_n (pc := 61) hx hb dX6_copy_61 rfl (lv_at hl 0 rfl) ?_
              refine va_get (pc := 62) (D := E.1) (ci := 4) (v := .ref (a 27)) (C := RX6) (T := TX6) (N := 8) hx hb hts i_RX6 hown hK hP 0 rfl rfl 5 (Nat.le_of_ble_eq_true rfl) fl_38 (fun _ h9 => h9) rfl dX6_copy_62 ?_
              refine lv_iload_n (pc := 65) hx hb dX6_copy_65 rfl (lv_at hl 3 rfl) ?_
              obtain ⟨h_123, hq⟩ := pv_gd_some hq
              refine va_aldq (pc := 66) (D := E.1) hx hb hK hP 27 2 rfl rfl h_123 dX6_copy_66 ?_
              refine W.eq (g2 := F0 m 67 ls [.ref (a 30), .int ((w0.2.2.2.2.2.1 2).1)]) rfl ?_
              refine va_get (pc := 67) (D := E.1) (ci := 1) (v := .int ((w0.2.2.2.2.2.1 1).1)) (C := RX3) (T := TX3) (N := 3) hx hb hts i_RX3 hown hK hP 30 rfl rfl 1 (Nat.le_of_ble_eq_true rfl) fl_225 (fun _ h9 => h9) rfl dX6_copy_67 ?_
              refine lv_icmp_eq (pc := 70) (tgt := 80) hx hb dX6_copy_70 (by decide) (fun c_124 => ?_) (fun c_124 => ?_)
              · have hq := pv_pos c_124 hq
                refine lv_aload_n (pc := 80) hx hb dX6_copy_80 rfl (lv_at hl 0 rfl) ?_
                refine va_get (pc := 81) (D := E.1) (ci := 4) (v := .ref (a 27)) (C := RX6) (T := TX6) (N := 8) hx hb hts i_RX6 hown hK hP 0 rfl rfl 5 (Nat.le_of_ble_eq_true rfl) fl_38 (fun _ h9 => h9) rfl dX6_copy_81 ?_
                refine lv_iload_n (pc := 84) hx hb dX6_copy_84 rfl (lv_at hl 1 rfl) ?_
                obtain ⟨h_125, hq⟩ := pv_gd_some hq
                refine va_aldq (pc := 85) (D := E.1) hx hb hK hP 27 2 rfl rfl h_125 dX6_copy_85 ?_
                refine W.eq (g2 := F0 m 86 ls [.ref (a 32)]) rfl ?_
                refine lv_iload_n (pc := 86) hx hb dX6_copy_86 rfl (lv_at hl 2 rfl) ?_
                refine lv_iload (pc := 87) hx hb dX6_copy_87 (lv_at hl 5 rfl) ?_
                refine pv_vRO (pc := 89) (rest := []) (st1 := [.int (m_X3_has x2 x5 (w0.2.2.2.2.2.1 2))]) (ws := pv_wX E a w0) [.int x2, .int x5] ⟨hx, hb, hml, hown, hts⟩ hE hA hS hP (hD w0) (c_X3_has l E (a 32) (a 33) x2 x5 (w0.2.2.2.2.2.1 2)) (cwV 2 hts gX6_copy_X3_has rfl rfl rfl (by decide +kernel) ⟨(Nat.le_of_ble_eq_true rfl), (Nat.le_of_ble_eq_true rfl)⟩) (va_recv hK hP (ci := 1) (q0 := 32) rfl rfl) [32, 33] rfl rfl rfl hl.1 rfl rfl (Nat.le_of_ble_eq_true rfl) dX6_copy_89 ⟨Nat.zero_le _, Nat.zero_le _⟩ (fun locs hS => ?_)
                refine lv_if_eq (pc := 92) (tgt := 111) hx hb dX6_copy_92 (by decide) (fun c_126 => ?_) (fun c_126 => ?_)
                · have hq := pv_pos c_126 hq
                  exact B_111 w0 H locs ls hP hS (lv_sub hl [0] rfl) hq
                · have hq := pv_neg c_126 hq
                  refine lv_aload_n (pc := 95) hx hb dX6_copy_95 rfl (lv_at hl 0 rfl) ?_
                  refine va_get (pc := 96) (D := E.1) (ci := 4) (v := .ref (a 27)) (C := RX6) (T := TX6) (N := 8) hx hb hts i_RX6 hown hK hP 0 rfl rfl 5 (Nat.le_of_ble_eq_true rfl) fl_38 (fun _ h9 => h9) rfl dX6_copy_96 ?_
                  refine lv_iload_n (pc := 99) hx hb dX6_copy_99 rfl (lv_at hl 3 rfl) ?_
                  obtain ⟨h_127, hq⟩ := pv_gd_some hq
                  refine va_aldq (pc := 100) (D := E.1) hx hb hK hP 27 2 rfl rfl h_127 dX6_copy_100 ?_
                  refine W.eq (g2 := F0 m 101 ls [.ref (a 30)]) rfl ?_
                  refine lv_iload (pc := 101) hx hb dX6_copy_101 (lv_at hl 4 rfl) ?_
                  refine lv_iload (pc := 103) hx hb dX6_copy_103 (lv_at hl 5 rfl) ?_
                  refine pv_vRO (pc := 105) (rest := []) (st1 := [.int (m_X3_has x4 x5 (w0.2.2.2.2.2.1 1))]) (ws := pv_wX E a w0) [.int x4, .int x5] ⟨hx, hb, hml, hown, hts⟩ hE hA hS hP (hD w0) (c_X3_has l E (a 30) (a 31) x4 x5 (w0.2.2.2.2.2.1 1)) (cwV 2 hts gX6_copy_X3_has rfl rfl rfl (by decide +kernel) ⟨(Nat.le_of_ble_eq_true rfl), (Nat.le_of_ble_eq_true rfl)⟩) (va_recv hK hP (ci := 1) (q0 := 30) rfl rfl) [30, 31] rfl rfl rfl hl.1 rfl rfl (Nat.le_of_ble_eq_true rfl) dX6_copy_105 ⟨Nat.zero_le _, Nat.zero_le _⟩ (fun locs hS => ?_)
                  refine lv_if_ne (pc := 108) (tgt := 118) hx hb dX6_copy_108 (by decide) (fun c_128 => ?_) (fun c_128 => ?_)
                  · have hq := pv_neg c_128 hq
                    refine lv_aload_n (pc := 118) hx hb dX6_copy_118 rfl (lv_at hl 0 rfl) ?_
                    refine va_get (pc := 119) (D := E.1) (ci := 4) (v := .ref (a 27)) (C := RX6) (T := TX6) (N := 8) hx hb hts i_RX6 hown hK hP 0 rfl rfl 5 (Nat.le_of_ble_eq_true rfl) fl_38 (fun _ h9 => h9) rfl dX6_copy_119 ?_
                    refine lv_iload_n (pc := 122) hx hb dX6_copy_122 rfl (lv_at hl 1 rfl) ?_
                    obtain ⟨h_129, hq⟩ := pv_gd_some hq
                    refine va_aldq (pc := 123) (D := E.1) hx hb hK hP 27 2 rfl rfl h_129 dX6_copy_123 ?_
                    refine W.eq (g2 := F0 m 124 ls [.ref (a 32)]) rfl ?_
                    refine va_get (pc := 124) (D := E.1) (ci := 1) (v := .ref (a 33)) (C := RX3) (T := TX3) (N := 3) hx hb hts i_RX3 hown hK hP 32 rfl rfl 0 (Nat.le_of_ble_eq_true rfl) fl_214 (fun _ h9 => h9) rfl dX6_copy_124 ?_
                    refine lv_iload_n (pc := 127) hx hb dX6_copy_127 rfl (lv_at hl 2 rfl) ?_
                    refine lv_aload_n (pc := 128) hx hb dX6_copy_128 rfl (lv_at hl 0 rfl) ?_
                    refine va_get (pc := 129) (D := E.1) (ci := 4) (v := .ref (a 27)) (C := RX6) (T := TX6) (N := 8) hx hb hts i_RX6 hown hK hP 0 rfl rfl 5 (Nat.le_of_ble_eq_true rfl) fl_38 (fun _ h9 => h9) rfl dX6_copy_129 ?_
                    refine lv_iload_n (pc := 132) hx hb dX6_copy_132 rfl (lv_at hl 3 rfl) ?_
                    obtain ⟨h_130, hq⟩ := pv_gd_some hq
                    refine va_aldq (pc := 133) (D := E.1) hx hb hK hP 27 2 rfl rfl h_130 dX6_copy_133 ?_
                    refine W.eq (g2 := F0 m 134 ls [.ref (a 30), .int x2, .ref (a 33)]) rfl ?_
                    refine va_get (pc := 134) (D := E.1) (ci := 1) (v := .ref (a 31)) (C := RX3) (T := TX3) (N := 3) hx hb hts i_RX3 hown hK hP 30 rfl rfl 0 (Nat.le_of_ble_eq_true rfl) fl_214 (fun _ h9 => h9) rfl dX6_copy_134 ?_
                    refine lv_iload (pc := 137) hx hb dX6_copy_137 (lv_at hl 4 rfl) ?_
                    refine lv_iload (pc := 139) hx hb dX6_copy_139 (lv_at hl 5 rfl) ?_
                    obtain ⟨h_131, hq⟩ := pv_gc_some hq
                    refine va_copyl (pc := 141) (D := E.1) hx hb (by rw [hml]; exact hl.1.symm) hown ac_l ac_n ac_s ac_i hK hP (hD w0) hS 33 31 1 1 rfl rfl rfl rfl rfl h_131.1 h_131.2.1 h_131.2.2.1 h_131.2.2.2.1 h_131.2.2.2.2 (fun _ _ => rfl) (Nat.le_of_ble_eq_true rfl) (by decide) dX6_copy_141 (fun H locs hP _ hS => ?_)
                    have hP : va_P E.1 vwCl (pv_wX E a (w0.1, w0.2.1, w0.2.2.1, w0.2.2.2.1, w0.2.2.2.2.1, (va_up w0.2.2.2.2.2.1 1 ((w0.2.2.2.2.2.1 1).1, (w0.2.2.2.2.2.1 1).2.1, (va_cpy (w0.2.2.2.2.2.1 2).2.2 (w0.2.2.2.2.2.1 1).2.2 x2.toNatClampNeg x4.toNatClampNeg x5.toNatClampNeg))), w0.2.2.2.2.2.2.1, w0.2.2.2.2.2.2.2)) H := hP
                    refine lv_iload (pc := 144) hx hb dX6_copy_144 (lv_at hl 5 rfl) ?_
                    exact pv_riRW (w := fun w : pv_XT => pv_wX E a w) hx hb hr hlk hAe hS hP (Option.some.inj hq) dX6_copy_146
                  · have hq := pv_pos c_128 hq
                    exact B_111 w0 H locs ls hP hS (lv_sub hl [0] rfl) hq
              · have hq := pv_neg c_124 hq
                refine lv_aload_n (pc := 73) hx hb dX6_copy_73 rfl (lv_at hl 0 rfl) ?_
                refine lv_ldc (pc := 74) hx hb hown lc_127 dX6_copy_74 ?_
                obtain ⟨u_132, hu_132, hq⟩ := pv_bind hq
                refine pv_vRWf (pc := 76) (rest := []) (st1 := [.int u_132.1]) (ws := pv_wX E a w0) [.int (-1000000003)] ⟨hx, hb, hml, hown, hts⟩ hE hA hS hP (hD w0) (c_X6_finding l E a (-1000000003) w0 u_132 hu_132) (cwV 1 hts gX6_copy_X6_finding rfl rfl rfl (by decide +kernel) ⟨(Nat.le_of_ble_eq_true rfl), (Nat.le_of_ble_eq_true rfl)⟩) (va_recv hK hP (ci := 4) (q0 := 0) rfl rfl) rfl hl.1 rfl rfl (Nat.le_of_ble_eq_true rfl) dX6_copy_76 ⟨Nat.zero_le _, Nat.zero_le _⟩ (fun H locs hP hS => ?_)
                have hP : va_P E.1 vwCl (pv_wX E a u_132.2) H := hP
                exact pv_riRW (w := fun w : pv_XT => pv_wX E a w) hx hb hr hlk hAe hS hP (Option.some.inj hq) dX6_copy_79
            · have hq := pv_neg c_121 hq
              exact B_45 w0 H locs ls hP hS (lv_sub hl [0] rfl) hq
          · rw [pv_cl2] at hq
            have hl : lv_has ls 6 [(0, .ref (a 0)), (1, .int 2), (2, .int x2), (3, .int 2), (4, .int x4), (5, .int x5)] := hl
            refine va_aldq (pc := 38) (D := E.1) hx hb hK hP 27 2 rfl rfl h_108 dX6_copy_38 ?_
            refine W.eq (g2 := F0 m 39 ls [.ref (a 32)]) rfl ?_
            refine pv_vRO (pc := 39) (rest := []) (st1 := [.int (m_X3_isMissing (w0.2.2.2.2.2.1 2))]) (ws := pv_wX E a w0) [] ⟨hx, hb, hml, hown, hts⟩ hE hA hS hP (hD w0) (c_X3_isMissing l E (a 32) (a 33) (w0.2.2.2.2.2.1 2)) (cwV 0 hts gX6_copy_X3_isMissing rfl rfl rfl (by decide +kernel) ⟨(Nat.le_of_ble_eq_true rfl), (Nat.le_of_ble_eq_true rfl)⟩) (va_recv hK hP (ci := 1) (q0 := 32) rfl rfl) [32, 33] rfl rfl rfl hl.1 rfl rfl (Nat.le_of_ble_eq_true rfl) dX6_copy_39 ⟨Nat.zero_le _, Nat.zero_le _⟩ (fun locs hS => ?_)
            refine lv_if_eq (pc := 42) (tgt := 52) hx hb dX6_copy_42 (by decide) (fun c_133 => ?_) (fun c_133 => ?_)
            · have hq := pv_pos c_133 hq
              refine lv_aload_n (pc := 52) hx hb dX6_copy_52 rfl (lv_at hl 0 rfl) ?_
              refine va_get (pc := 53) (D := E.1) (ci := 4) (v := .ref (a 27)) (C := RX6) (T := TX6) (N := 8) hx hb hts i_RX6 hown hK hP 0 rfl rfl 5 (Nat.le_of_ble_eq_true rfl) fl_38 (fun _ h9 => h9) rfl dX6_copy_53 ?_
              refine lv_iload_n (pc := 56) hx hb dX6_copy_56 rfl (lv_at hl 1 rfl) ?_
              obtain ⟨h_134, hq⟩ := pv_gd_some hq
              refine va_aldq (pc := 57) (D := E.1) hx hb hK hP 27 2 rfl rfl h_134 dX6_copy_57 ?_
              refine W.eq (g2 := F0 m 58 ls [.ref (a 32)]) rfl ?_
              refine va_get (pc := 58) (D := E.1) (ci := 1) (v := .int ((w0.2.2.2.2.2.1 2).1)) (C := RX3) (T := TX3) (N := 3) hx hb hts i_RX3 hown hK hP 32 rfl rfl 1 (Nat.le_of_ble_eq_true rfl) fl_225 (fun _ h9 => h9) rfl dX6_copy_58 ?_
              refine lv_aload_n (pc := 61) hx hb dX6_copy_61 rfl (lv_at hl 0 rfl) ?_
              refine va_get (pc := 62) (D := E.1) (ci := 4) (v := .ref (a 27)) (C := RX6) (T := TX6) (N := 8) hx hb hts i_RX6 hown hK hP 0 rfl rfl 5 (Nat.le_of_ble_eq_true rfl) fl_38 (fun _ h9 => h9) rfl dX6_copy_62 ?_
              refine lv_iload_n (pc := 65) hx hb dX6_copy_65 rfl (lv_at hl 3 rfl) ?_
              obtain ⟨h_135, hq⟩ := pv_gd_some hq
              refine va_aldq (pc := 66) (D := E.1) hx hb hK hP 27 2 rfl rfl h_135 dX6_copy_66 ?_
              refine W.eq (g2 := F0 m 67 ls [.ref (a 32), .int ((w0.2.2.2.2.2.1 2).1)]) rfl ?_
              refine va_get (pc := 67) (D := E.1) (ci := 1) (v := .int ((w0.2.2.2.2.2.1 2).1)) (C := RX3) (T := TX3) (N := 3) hx hb hts i_RX3 hown hK hP 32 rfl rfl 1 (Nat.le_of_ble_eq_true rfl) fl_225 (fun _ h9 => h9) rfl dX6_copy_67 ?_
              refine lv_icmp_eq (pc := 70) (tgt := 80) hx hb dX6_copy_70 (by decide) (fun c_136 => ?_) (fun c_136 => ?_)
              · have hq := pv_pos c_136 hq
                refine lv_aload_n (pc := 80) hx hb dX6_copy_80 rfl (lv_at hl 0 rfl) ?_
                refine va_get (pc := 81) (D := E.1) (ci := 4) (v := .ref (a 27)) (C := RX6) (T := TX6) (N := 8) hx hb hts i_RX6 hown hK hP 0 rfl rfl 5 (Nat.le_of_ble_eq_true rfl) fl_38 (fun _ h9 => h9) rfl dX6_copy_81 ?_
                refine lv_iload_n (pc := 84) hx hb dX6_copy_84 rfl (lv_at hl 1 rfl) ?_
                obtain ⟨h_137, hq⟩ := pv_gd_some hq
                refine va_aldq (pc := 85) (D := E.1) hx hb hK hP 27 2 rfl rfl h_137 dX6_copy_85 ?_
                refine W.eq (g2 := F0 m 86 ls [.ref (a 32)]) rfl ?_
                refine lv_iload_n (pc := 86) hx hb dX6_copy_86 rfl (lv_at hl 2 rfl) ?_
                refine lv_iload (pc := 87) hx hb dX6_copy_87 (lv_at hl 5 rfl) ?_
                refine pv_vRO (pc := 89) (rest := []) (st1 := [.int (m_X3_has x2 x5 (w0.2.2.2.2.2.1 2))]) (ws := pv_wX E a w0) [.int x2, .int x5] ⟨hx, hb, hml, hown, hts⟩ hE hA hS hP (hD w0) (c_X3_has l E (a 32) (a 33) x2 x5 (w0.2.2.2.2.2.1 2)) (cwV 2 hts gX6_copy_X3_has rfl rfl rfl (by decide +kernel) ⟨(Nat.le_of_ble_eq_true rfl), (Nat.le_of_ble_eq_true rfl)⟩) (va_recv hK hP (ci := 1) (q0 := 32) rfl rfl) [32, 33] rfl rfl rfl hl.1 rfl rfl (Nat.le_of_ble_eq_true rfl) dX6_copy_89 ⟨Nat.zero_le _, Nat.zero_le _⟩ (fun locs hS => ?_)
                refine lv_if_eq (pc := 92) (tgt := 111) hx hb dX6_copy_92 (by decide) (fun c_138 => ?_) (fun c_138 => ?_)
                · have hq := pv_pos c_138 hq
                  exact B_111 w0 H locs ls hP hS (lv_sub hl [0] rfl) hq
                · have hq := pv_neg c_138 hq
                  refine lv_aload_n (pc := 95) hx hb dX6_copy_95 rfl (lv_at hl 0 rfl) ?_
                  refine va_get (pc := 96) (D := E.1) (ci := 4) (v := .ref (a 27)) (C := RX6) (T := TX6) (N := 8) hx hb hts i_RX6 hown hK hP 0 rfl rfl 5 (Nat.le_of_ble_eq_true rfl) fl_38 (fun _ h9 => h9) rfl dX6_copy_96 ?_
                  refine lv_iload_n (pc := 99) hx hb dX6_copy_99 rfl (lv_at hl 3 rfl) ?_
                  obtain ⟨h_139, hq⟩ := pv_gd_some hq
                  refine va_aldq (pc := 100) (D := E.1) hx hb hK hP 27 2 rfl rfl h_139 dX6_copy_100 ?_
                  refine W.eq (g2 := F0 m 101 ls [.ref (a 32)]) rfl ?_
                  refine lv_iload (pc := 101) hx hb dX6_copy_101 (lv_at hl 4 rfl) ?_
                  refine lv_iload (pc := 103) hx hb dX6_copy_103 (lv_at hl 5 rfl) ?_
                  refine pv_vRO (pc := 105) (rest := []) (st1 := [.int (m_X3_has x4 x5 (w0.2.2.2.2.2.1 2))]) (ws := pv_wX E a w0) [.int x4, .int x5] ⟨hx, hb, hml, hown, hts⟩ hE hA hS hP (hD w0) (c_X3_has l E (a 32) (a 33) x4 x5 (w0.2.2.2.2.2.1 2)) (cwV 2 hts gX6_copy_X3_has rfl rfl rfl (by decide +kernel) ⟨(Nat.le_of_ble_eq_true rfl), (Nat.le_of_ble_eq_true rfl)⟩) (va_recv hK hP (ci := 1) (q0 := 32) rfl rfl) [32, 33] rfl rfl rfl hl.1 rfl rfl (Nat.le_of_ble_eq_true rfl) dX6_copy_105 ⟨Nat.zero_le _, Nat.zero_le _⟩ (fun locs hS => ?_)
                  refine lv_if_ne (pc := 108) (tgt := 118) hx hb dX6_copy_108 (by decide) (fun c_140 => ?_) (fun c_140 => ?_)
                  · have hq := pv_neg c_140 hq
                    refine lv_aload_n (pc := 118) hx hb dX6_copy_118 rfl (lv_at hl 0 rfl) ?_
                    refine va_get (pc := 119) (D := E.1) (ci := 4) (v := .ref (a 27)) (C := RX6) (T := TX6) (N := 8) hx hb hts i_RX6 hown hK hP 0 rfl rfl 5 (Nat.le_of_ble_eq_true rfl) fl_38 (fun _ h9 => h9) rfl dX6_copy_119 ?_
                    refine lv_iload_n (pc := 122) hx hb dX6_copy_122 rfl (lv_at hl 1 rfl) ?_
                    obtain ⟨h_141, hq⟩ := pv_gd_some hq
                    refine va_aldq (pc := 123) (D := E.1) hx hb hK hP 27 2 rfl rfl h_141 dX6_copy_123 ?_
                    refine W.eq (g2 := F0 m 124 ls [.ref (a 32)]) rfl ?_
                    refine va_get (pc := 124) (D := E.1) (ci := 1) (v := .ref (a 33)) (C := RX3) (T := TX3) (N := 3) hx hb hts i_RX3 hown hK hP 32 rfl rfl 0 (Nat.le_of_ble_eq_true rfl) fl_214 (fun _ h9 => h9) rfl dX6_copy_124 ?_
                    refine lv_iload_n (pc := 127) hx hb dX6_copy_127 rfl (lv_at hl 2 rfl) ?_
                    refine lv_aload_n (pc := 128) hx hb dX6_copy_128 rfl (lv_at hl 0 rfl) ?_
                    refine va_get (pc := 129) (D := E.1) (ci := 4) (v := .ref (a 27)) (C := RX6) (T := TX6) (N := 8) hx hb hts i_RX6 hown hK hP 0 rfl rfl 5 (Nat.le_of_ble_eq_true rfl) fl_38 (fun _ h9 => h9) rfl dX6_copy_129 ?_
                    refine lv_iload_n (pc := 132) hx hb dX6_copy_132 rfl (lv_at hl 3 rfl) ?_
                    obtain ⟨h_142, hq⟩ := pv_gd_some hq
                    refine va_aldq (pc := 133) (D := E.1) hx hb hK hP 27 2 rfl rfl h_142 dX6_copy_133 ?_
                    refine W.eq (g2 := F0 m 134 ls [.ref (a 32), .int x2, .ref (a 33)]) rfl ?_
                    refine va_get (pc := 134) (D := E.1) (ci := 1) (v := .ref (a 33)) (C := RX3) (T := TX3) (N := 3) hx hb hts i_RX3 hown hK hP 32 rfl rfl 0 (Nat.le_of_ble_eq_true rfl) fl_214 (fun _ h9 => h9) rfl dX6_copy_134 ?_
                    refine lv_iload (pc := 137) hx hb dX6_copy_137 (lv_at hl 4 rfl) ?_
                    refine lv_iload (pc := 139) hx hb dX6_copy_139 (lv_at hl 5 rfl) ?_
                    obtain ⟨h_143, hq⟩ := pv_gc_some hq
                    refine va_copyl (pc := 141) (D := E.1) hx hb (by rw [hml]; exact hl.1.symm) hown ac_l ac_n ac_s ac_i hK hP (hD w0) hS 33 33 1 1 rfl rfl rfl rfl rfl h_143.1 h_143.2.1 h_143.2.2.1 h_143.2.2.2.1 h_143.2.2.2.2 (fun _ _ => rfl) (Nat.le_of_ble_eq_true rfl) (by decide) dX6_copy_141 (fun H locs hP _ hS => ?_)
                    have hP : va_P E.1 vwCl (pv_wX E a (w0.1, w0.2.1, w0.2.2.1, w0.2.2.2.1, w0.2.2.2.2.1, (va_up w0.2.2.2.2.2.1 2 ((w0.2.2.2.2.2.1 2).1, (w0.2.2.2.2.2.1 2).2.1, (va_cpy (w0.2.2.2.2.2.1 2).2.2 (w0.2.2.2.2.2.1 2).2.2 x2.toNatClampNeg x4.toNatClampNeg x5.toNatClampNeg))), w0.2.2.2.2.2.2.1, w0.2.2.2.2.2.2.2)) H := hP
                    refine lv_iload (pc := 144) hx hb dX6_copy_144 (lv_at hl 5 rfl) ?_
                    exact pv_riRW (w := fun w : pv_XT => pv_wX E a w) hx hb hr hlk hAe hS hP (Option.some.inj hq) dX6_copy_146
                  · have hq := pv_pos c_140 hq
                    exact B_111 w0 H locs ls hP hS (lv_sub hl [0] rfl) hq
              · have hq := pv_neg c_136 hq
                refine lv_aload_n (pc := 73) hx hb dX6_copy_73 rfl (lv_at hl 0 rfl) ?_
                refine lv_ldc (pc := 74) hx hb hown lc_127 dX6_copy_74 ?_
                obtain ⟨u_144, hu_144, hq⟩ := pv_bind hq
                refine pv_vRWf (pc := 76) (rest := []) (st1 := [.int u_144.1]) (ws := pv_wX E a w0) [.int (-1000000003)] ⟨hx, hb, hml, hown, hts⟩ hE hA hS hP (hD w0) (c_X6_finding l E a (-1000000003) w0 u_144 hu_144) (cwV 1 hts gX6_copy_X6_finding rfl rfl rfl (by decide +kernel) ⟨(Nat.le_of_ble_eq_true rfl), (Nat.le_of_ble_eq_true rfl)⟩) (va_recv hK hP (ci := 4) (q0 := 0) rfl rfl) rfl hl.1 rfl rfl (Nat.le_of_ble_eq_true rfl) dX6_copy_76 ⟨Nat.zero_le _, Nat.zero_le _⟩ (fun H locs hP hS => ?_)
                have hP : va_P E.1 vwCl (pv_wX E a u_144.2) H := hP
                exact pv_riRW (w := fun w : pv_XT => pv_wX E a w) hx hb hr hlk hAe hS hP (Option.some.inj hq) dX6_copy_79
            · have hq := pv_neg c_133 hq
              exact B_45 w0 H locs ls hP hS (lv_sub hl [0] rfl) hq
          · rw [pv_cl3] at hq
            have hl : lv_has ls 6 [(0, .ref (a 0)), (1, .int 2), (2, .int x2), (3, .int 3), (4, .int x4), (5, .int x5)] := hl
            refine va_aldq (pc := 38) (D := E.1) hx hb hK hP 27 2 rfl rfl h_108 dX6_copy_38 ?_
            refine W.eq (g2 := F0 m 39 ls [.ref (a 34)]) rfl ?_
            refine pv_vRO (pc := 39) (rest := []) (st1 := [.int (m_X3_isMissing (w0.2.2.2.2.2.1 3))]) (ws := pv_wX E a w0) [] ⟨hx, hb, hml, hown, hts⟩ hE hA hS hP (hD w0) (c_X3_isMissing l E (a 34) (a 35) (w0.2.2.2.2.2.1 3)) (cwV 0 hts gX6_copy_X3_isMissing rfl rfl rfl (by decide +kernel) ⟨(Nat.le_of_ble_eq_true rfl), (Nat.le_of_ble_eq_true rfl)⟩) (va_recv hK hP (ci := 1) (q0 := 34) rfl rfl) [34, 35] rfl rfl rfl hl.1 rfl rfl (Nat.le_of_ble_eq_true rfl) dX6_copy_39 ⟨Nat.zero_le _, Nat.zero_le _⟩ (fun locs hS => ?_)
            refine lv_if_eq (pc := 42) (tgt := 52) hx hb dX6_copy_42 (by decide) (fun c_145 => ?_) (fun c_145 => ?_)
            · have hq := pv_pos c_145 hq
              refine lv_aload_n (pc := 52) hx hb dX6_copy_52 rfl (lv_at hl 0 rfl) ?_
              refine va_get (pc := 53) (D := E.1) (ci := 4) (v := .ref (a 27)) (C := RX6) (T := TX6) (N := 8) hx hb hts i_RX6 hown hK hP 0 rfl rfl 5 (Nat.le_of_ble_eq_true rfl) fl_38 (fun _ h9 => h9) rfl dX6_copy_53 ?_
              refine lv_iload_n (pc := 56) hx hb dX6_copy_56 rfl (lv_at hl 1 rfl) ?_
              obtain ⟨h_146, hq⟩ := pv_gd_some hq
              refine va_aldq (pc := 57) (D := E.1) hx hb hK hP 27 2 rfl rfl h_146 dX6_copy_57 ?_
              refine W.eq (g2 := F0 m 58 ls [.ref (a 32)]) rfl ?_
              refine va_get (pc := 58) (D := E.1) (ci := 1) (v := .int ((w0.2.2.2.2.2.1 2).1)) (C := RX3) (T := TX3) (N := 3) hx hb hts i_RX3 hown hK hP 32 rfl rfl 1 (Nat.le_of_ble_eq_true rfl) fl_225 (fun _ h9 => h9) rfl dX6_copy_58 ?_
              refine lv_aload_n (pc := 61) hx hb dX6_copy_61 rfl (lv_at hl 0 rfl) ?_
              refine va_get (pc := 62) (D := E.1) (ci := 4) (v := .ref (a 27)) (C := RX6) (T := TX6) (N := 8) hx hb hts i_RX6 hown hK hP 0 rfl rfl 5 (Nat.le_of_ble_eq_true rfl) fl_38 (fun _ h9 => h9) rfl dX6_copy_62 ?_
              refine lv_iload_n (pc := 65) hx hb dX6_copy_65 rfl (lv_at hl 3 rfl) ?_
              obtain ⟨h_147, hq⟩ := pv_gd_some hq
              refine va_aldq (pc := 66) (D := E.1) hx hb hK hP 27 2 rfl rfl h_147 dX6_copy_66 ?_
              refine W.eq (g2 := F0 m 67 ls [.ref (a 34), .int ((w0.2.2.2.2.2.1 2).1)]) rfl ?_
              refine va_get (pc := 67) (D := E.1) (ci := 1) (v := .int ((w0.2.2.2.2.2.1 3).1)) (C := RX3) (T := TX3) (N := 3) hx hb hts i_RX3 hown hK hP 34 rfl rfl 1 (Nat.le_of_ble_eq_true rfl) fl_225 (fun _ h9 => h9) rfl dX6_copy_67 ?_
              refine lv_icmp_eq (pc := 70) (tgt := 80) hx hb dX6_copy_70 (by decide) (fun c_148 => ?_) (fun c_148 => ?_)
              · have hq := pv_pos c_148 hq
                refine lv_aload_n (pc := 80) hx hb dX6_copy_80 rfl (lv_at hl 0 rfl) ?_
                refine va_get (pc := 81) (D := E.1) (ci := 4) (v := .ref (a 27)) (C := RX6) (T := TX6) (N := 8) hx hb hts i_RX6 hown hK hP 0 rfl rfl 5 (Nat.le_of_ble_eq_true rfl) fl_38 (fun _ h9 => h9) rfl dX6_copy_81 ?_
                refine lv_iload_n (pc := 84) hx hb dX6_copy_84 rfl (lv_at hl 1 rfl) ?_
                obtain ⟨h_149, hq⟩ := pv_gd_some hq
                refine va_aldq (pc := 85) (D := E.1) hx hb hK hP 27 2 rfl rfl h_149 dX6_copy_85 ?_
                refine W.eq (g2 := F0 m 86 ls [.ref (a 32)]) rfl ?_
                refine lv_iload_n (pc := 86) hx hb dX6_copy_86 rfl (lv_at hl 2 rfl) ?_
                refine lv_iload (pc := 87) hx hb dX6_copy_87 (lv_at hl 5 rfl) ?_
                refine pv_vRO (pc := 89) (rest := []) (st1 := [.int (m_X3_has x2 x5 (w0.2.2.2.2.2.1 2))]) (ws := pv_wX E a w0) [.int x2, .int x5] ⟨hx, hb, hml, hown, hts⟩ hE hA hS hP (hD w0) (c_X3_has l E (a 32) (a 33) x2 x5 (w0.2.2.2.2.2.1 2)) (cwV 2 hts gX6_copy_X3_has rfl rfl rfl (by decide +kernel) ⟨(Nat.le_of_ble_eq_true rfl), (Nat.le_of_ble_eq_true rfl)⟩) (va_recv hK hP (ci := 1) (q0 := 32) rfl rfl) [32, 33] rfl rfl rfl hl.1 rfl rfl (Nat.le_of_ble_eq_true rfl) dX6_copy_89 ⟨Nat.zero_le _, Nat.zero_le _⟩ (fun locs hS => ?_)
                refine lv_if_eq (pc := 92) (tgt := 111) hx hb dX6_copy_92 (by decide) (fun c_150 => ?_) (fun c_150 => ?_)
                · have hq := pv_pos c_150 hq
                  exact B_111 w0 H locs ls hP hS (lv_sub hl [0] rfl) hq
                · have hq := pv_neg c_150 hq
                  refine lv_aload_n (pc := 95) hx hb dX6_copy_95 rfl (lv_at hl 0 rfl) ?_
                  refine va_get (pc := 96) (D := E.1) (ci := 4) (v := .ref (a 27)) (C := RX6) (T := TX6) (N := 8) hx hb hts i_RX6 hown hK hP 0 rfl rfl 5 (Nat.le_of_ble_eq_true rfl) fl_38 (fun _ h9 => h9) rfl dX6_copy_96 ?_
                  refine lv_iload_n (pc := 99) hx hb dX6_copy_99 rfl (lv_at hl 3 rfl) ?_
                  obtain ⟨h_151, hq⟩ := pv_gd_some hq
                  refine va_aldq (pc := 100) (D := E.1) hx hb hK hP 27 2 rfl rfl h_151 dX6_copy_100 ?_
                  refine W.eq (g2 := F0 m 101 ls [.ref (a 34)]) rfl ?_
                  refine lv_iload (pc := 101) hx hb dX6_copy_101 (lv_at hl 4 rfl) ?_
                  refine lv_iload (pc := 103) hx hb dX6_copy_103 (lv_at hl 5 rfl) ?_
                  refine pv_vRO (pc := 105) (rest := []) (st1 := [.int (m_X3_has x4 x5 (w0.2.2.2.2.2.1 3))]) (ws := pv_wX E a w0) [.int x4, .int x5] ⟨hx, hb, hml, hown, hts⟩ hE hA hS hP (hD w0) (c_X3_has l E (a 34) (a 35) x4 x5 (w0.2.2.2.2.2.1 3)) (cwV 2 hts gX6_copy_X3_has rfl rfl rfl (by decide +kernel) ⟨(Nat.le_of_ble_eq_true rfl), (Nat.le_of_ble_eq_true rfl)⟩) (va_recv hK hP (ci := 1) (q0 := 34) rfl rfl) [34, 35] rfl rfl rfl hl.1 rfl rfl (Nat.le_of_ble_eq_true rfl) dX6_copy_105 ⟨Nat.zero_le _, Nat.zero_le _⟩ (fun locs hS => ?_)
                  refine lv_if_ne (pc := 108) (tgt := 118) hx hb dX6_copy_108 (by decide) (fun c_152 => ?_) (fun c_152 => ?_)
                  · have hq := pv_neg c_152 hq
                    refine lv_aload_n (pc := 118) hx hb dX6_copy_118 rfl (lv_at hl 0 rfl) ?_
                    refine va_get (pc := 119) (D := E.1) (ci := 4) (v := .ref (a 27)) (C := RX6) (T := TX6) (N := 8) hx hb hts i_RX6 hown hK hP 0 rfl rfl 5 (Nat.le_of_ble_eq_true rfl) fl_38 (fun _ h9 => h9) rfl dX6_copy_119 ?_
                    refine lv_iload_n (pc := 122) hx hb dX6_copy_122 rfl (lv_at hl 1 rfl) ?_
                    obtain ⟨h_153, hq⟩ := pv_gd_some hq
                    refine va_aldq (pc := 123) (D := E.1) hx hb hK hP 27 2 rfl rfl h_153 dX6_copy_123 ?_
                    refine W.eq (g2 := F0 m 124 ls [.ref (a 32)]) rfl ?_
                    refine va_get (pc := 124) (D := E.1) (ci := 1) (v := .ref (a 33)) (C := RX3) (T := TX3) (N := 3) hx hb hts i_RX3 hown hK hP 32 rfl rfl 0 (Nat.le_of_ble_eq_true rfl) fl_214 (fun _ h9 => h9) rfl dX6_copy_124 ?_
                    refine lv_iload_n (pc := 127) hx hb dX6_copy_127 rfl (lv_at hl 2 rfl) ?_
                    refine lv_aload_n (pc := 128) hx hb dX6_copy_128 rfl (lv_at hl 0 rfl) ?_
                    refine va_get (pc := 129) (D := E.1) (ci := 4) (v := .ref (a 27)) (C := RX6) (T := TX6) (N := 8) hx hb hts i_RX6 hown hK hP 0 rfl rfl 5 (Nat.le_of_ble_eq_true rfl) fl_38 (fun _ h9 => h9) rfl dX6_copy_129 ?_
                    refine lv_iload_n (pc := 132) hx hb dX6_copy_132 rfl (lv_at hl 3 rfl) ?_
                    obtain ⟨h_154, hq⟩ := pv_gd_some hq
                    refine va_aldq (pc := 133) (D := E.1) hx hb hK hP 27 2 rfl rfl h_154 dX6_copy_133 ?_
                    refine W.eq (g2 := F0 m 134 ls [.ref (a 34), .int x2, .ref (a 33)]) rfl ?_
                    refine va_get (pc := 134) (D := E.1) (ci := 1) (v := .ref (a 35)) (C := RX3) (T := TX3) (N := 3) hx hb hts i_RX3 hown hK hP 34 rfl rfl 0 (Nat.le_of_ble_eq_true rfl) fl_214 (fun _ h9 => h9) rfl dX6_copy_134 ?_
                    refine lv_iload (pc := 137) hx hb dX6_copy_137 (lv_at hl 4 rfl) ?_
                    refine lv_iload (pc := 139) hx hb dX6_copy_139 (lv_at hl 5 rfl) ?_
                    obtain ⟨h_155, hq⟩ := pv_gc_some hq
                    refine va_copyl (pc := 141) (D := E.1) hx hb (by rw [hml]; exact hl.1.symm) hown ac_l ac_n ac_s ac_i hK hP (hD w0) hS 33 35 1 1 rfl rfl rfl rfl rfl h_155.1 h_155.2.1 h_155.2.2.1 h_155.2.2.2.1 h_155.2.2.2.2 (fun _ _ => rfl) (Nat.le_of_ble_eq_true rfl) (by decide) dX6_copy_141 (fun H locs hP _ hS => ?_)
                    have hP : va_P E.1 vwCl (pv_wX E a (w0.1, w0.2.1, w0.2.2.1, w0.2.2.2.1, w0.2.2.2.2.1, (va_up w0.2.2.2.2.2.1 3 ((w0.2.2.2.2.2.1 3).1, (w0.2.2.2.2.2.1 3).2.1, (va_cpy (w0.2.2.2.2.2.1 2).2.2 (w0.2.2.2.2.2.1 3).2.2 x2.toNatClampNeg x4.toNatClampNeg x5.toNatClampNeg))), w0.2.2.2.2.2.2.1, w0.2.2.2.2.2.2.2)) H := hP
                    refine lv_iload (pc := 144) hx hb dX6_copy_144 (lv_at hl 5 rfl) ?_
                    exact pv_riRW (w := fun w : pv_XT => pv_wX E a w) hx hb hr hlk hAe hS hP (Option.some.inj hq) dX6_copy_146
                  · have hq := pv_pos c_152 hq
                    exact B_111 w0 H locs ls hP hS (lv_sub hl [0] rfl) hq
              · have hq := pv_neg c_148 hq
                refine lv_aload_n (pc := 73) hx hb dX6_copy_73 rfl (lv_at hl 0 rfl) ?_
                refine lv_ldc (pc := 74) hx hb hown lc_127 dX6_copy_74 ?_
                obtain ⟨u_156, hu_156, hq⟩ := pv_bind hq
                refine pv_vRWf (pc := 76) (rest := []) (st1 := [.int u_156.1]) (ws := pv_wX E a w0) [.int (-1000000003)] ⟨hx, hb, hml, hown, hts⟩ hE hA hS hP (hD w0) (c_X6_finding l E a (-1000000003) w0 u_156 hu_156) (cwV 1 hts gX6_copy_X6_finding rfl rfl rfl (by decide +kernel) ⟨(Nat.le_of_ble_eq_true rfl), (Nat.le_of_ble_eq_true rfl)⟩) (va_recv hK hP (ci := 4) (q0 := 0) rfl rfl) rfl hl.1 rfl rfl (Nat.le_of_ble_eq_true rfl) dX6_copy_76 ⟨Nat.zero_le _, Nat.zero_le _⟩ (fun H locs hP hS => ?_)
                have hP : va_P E.1 vwCl (pv_wX E a u_156.2) H := hP
                exact pv_riRW (w := fun w : pv_XT => pv_wX E a w) hx hb hr hlk hAe hS hP (Option.some.inj hq) dX6_copy_79
            · have hq := pv_neg c_145 hq
              exact B_45 w0 H locs ls hP hS (lv_sub hl [0] rfl) hq
      · rw [pv_cl3] at hq
        have hl : lv_has ls 6 [(0, .ref (a 0)), (1, .int 3), (2, .int x2), (3, .int x3), (4, .int x4), (5, .int x5)] := hl
        refine va_aldq (pc := 26) (D := E.1) hx hb hK hP 27 2 rfl rfl h_4 dX6_copy_26 ?_
        refine W.eq (g2 := F0 m 27 ls [.ref (a 34)]) rfl ?_
        refine pv_vRO (pc := 27) (rest := []) (st1 := [.int (m_X3_isMissing (w0.2.2.2.2.2.1 3))]) (ws := pv_wX E a w0) [] ⟨hx, hb, hml, hown, hts⟩ hE hA hS hP (hD w0) (c_X3_isMissing l E (a 34) (a 35) (w0.2.2.2.2.2.1 3)) (cwV 0 hts gX6_copy_X3_isMissing rfl rfl rfl (by decide +kernel) ⟨(Nat.le_of_ble_eq_true rfl), (Nat.le_of_ble_eq_true rfl)⟩) (va_recv hK hP (ci := 1) (q0 := 34) rfl rfl) [34, 35] rfl rfl rfl hl.1 rfl rfl (Nat.le_of_ble_eq_true rfl) dX6_copy_27 ⟨Nat.zero_le _, Nat.zero_le _⟩ (fun locs hS => ?_)
        refine lv_if_ne (pc := 30) (tgt := 45) hx hb dX6_copy_30 (by decide) (fun c_157 => ?_) (fun c_157 => ?_)
        · have hq := pv_neg c_157 hq
          exact B_45 w0 H locs ls hP hS (lv_sub hl [0] rfl) hq
        · have hq := pv_pos c_157 hq
          refine lv_aload_n (pc := 33) hx hb dX6_copy_33 rfl (lv_at hl 0 rfl) ?_
          refine va_get (pc := 34) (D := E.1) (ci := 4) (v := .ref (a 27)) (C := RX6) (T := TX6) (N := 8) hx hb hts i_RX6 hown hK hP 0 rfl rfl 5 (Nat.le_of_ble_eq_true rfl) fl_38 (fun _ h9 => h9) rfl dX6_copy_34 ?_
          refine lv_iload_n (pc := 37) hx hb dX6_copy_37 rfl (lv_at hl 3 rfl) ?_
          obtain ⟨h_158, hq⟩ := pv_gd_some hq
          rcases pv_sh4 h_158 with rfl | rfl | rfl | rfl
          · rw [pv_cl0] at hq
            have hl : lv_has ls 6 [(0, .ref (a 0)), (1, .int 3), (2, .int x2), (3, .int 0), (4, .int x4), (5, .int x5)] := hl
            refine va_aldq (pc := 38) (D := E.1) hx hb hK hP 27 2 rfl rfl h_158 dX6_copy_38 ?_
            refine W.eq (g2 := F0 m 39 ls [.ref (a 28)]) rfl ?_
            refine pv_vRO (pc := 39) (rest := []) (st1 := [.int (m_X3_isMissing (w0.2.2.2.2.2.1 0))]) (ws := pv_wX E a w0) [] ⟨hx, hb, hml, hown, hts⟩ hE hA hS hP (hD w0) (c_X3_isMissing l E (a 28) (a 29) (w0.2.2.2.2.2.1 0)) (cwV 0 hts gX6_copy_X3_isMissing rfl rfl rfl (by decide +kernel) ⟨(Nat.le_of_ble_eq_true rfl), (Nat.le_of_ble_eq_true rfl)⟩) (va_recv hK hP (ci := 1) (q0 := 28) rfl rfl) [28, 29] rfl rfl rfl hl.1 rfl rfl (Nat.le_of_ble_eq_true rfl) dX6_copy_39 ⟨Nat.zero_le _, Nat.zero_le _⟩ (fun locs hS => ?_)
            refine lv_if_eq (pc := 42) (tgt := 52) hx hb dX6_copy_42 (by decide) (fun c_159 => ?_) (fun c_159 => ?_)
            · have hq := pv_pos c_159 hq
              refine lv_aload_n (pc := 52) hx hb dX6_copy_52 rfl (lv_at hl 0 rfl) ?_
              refine va_get (pc := 53) (D := E.1) (ci := 4) (v := .ref (a 27)) (C := RX6) (T := TX6) (N := 8) hx hb hts i_RX6 hown hK hP 0 rfl rfl 5 (Nat.le_of_ble_eq_true rfl) fl_38 (fun _ h9 => h9) rfl dX6_copy_53 ?_
              refine lv_iload_n (pc := 56) hx hb dX6_copy_56 rfl (lv_at hl 1 rfl) ?_
              obtain ⟨h_160, hq⟩ := pv_gd_some hq
              refine va_aldq (pc := 57) (D := E.1) hx hb hK hP 27 2 rfl rfl h_160 dX6_copy_57 ?_
              refine W.eq (g2 := F0 m 58 ls [.ref (a 34)]) rfl ?_
              refine va_get (pc := 58) (D := E.1) (ci := 1) (v := .int ((w0.2.2.2.2.2.1 3).1)) (C := RX3) (T := TX3) (N := 3) hx hb hts i_RX3 hown hK hP 34 rfl rfl 1 (Nat.le_of_ble_eq_true rfl) fl_225 (fun _ h9 => h9) rfl dX6_copy_58 ?_
              refine lv_aload_n (pc := 61) hx hb dX6_copy_61 rfl (lv_at hl 0 rfl) ?_
              refine va_get (pc := 62) (D := E.1) (ci := 4) (v := .ref (a 27)) (C := RX6) (T := TX6) (N := 8) hx hb hts i_RX6 hown hK hP 0 rfl rfl 5 (Nat.le_of_ble_eq_true rfl) fl_38 (fun _ h9 => h9) rfl dX6_copy_62 ?_
              refine lv_iload_n (pc := 65) hx hb dX6_copy_65 rfl (lv_at hl 3 rfl) ?_
              obtain ⟨h_161, hq⟩ := pv_gd_some hq
              refine va_aldq (pc := 66) (D := E.1) hx hb hK hP 27 2 rfl rfl h_161 dX6_copy_66 ?_
              refine W.eq (g2 := F0 m 67 ls [.ref (a 28), .int ((w0.2.2.2.2.2.1 3).1)]) rfl ?_
              refine va_get (pc := 67) (D := E.1) (ci := 1) (v := .int ((w0.2.2.2.2.2.1 0).1)) (C := RX3) (T := TX3) (N := 3) hx hb hts i_RX3 hown hK hP 28 rfl rfl 1 (Nat.le_of_ble_eq_true rfl) fl_225 (fun _ h9 => h9) rfl dX6_copy_67 ?_
              refine lv_icmp_eq (pc := 70) (tgt := 80) hx hb dX6_copy_70 (by decide) (fun c_162 => ?_) (fun c_162 => ?_)
              · have hq := pv_pos c_162 hq
                refine lv_aload_n (pc := 80) hx hb dX6_copy_80 rfl (lv_at hl 0 rfl) ?_
                refine va_get (pc := 81) (D := E.1) (ci := 4) (v := .ref (a 27)) (C := RX6) (T := TX6) (N := 8) hx hb hts i_RX6 hown hK hP 0 rfl rfl 5 (Nat.le_of_ble_eq_true rfl) fl_38 (fun _ h9 => h9) rfl dX6_copy_81 ?_
                refine lv_iload_n (pc := 84) hx hb dX6_copy_84 rfl (lv_at hl 1 rfl) ?_
                obtain ⟨h_163, hq⟩ := pv_gd_some hq
                refine va_aldq (pc := 85) (D := E.1) hx hb hK hP 27 2 rfl rfl h_163 dX6_copy_85 ?_
                refine W.eq (g2 := F0 m 86 ls [.ref (a 34)]) rfl ?_
                refine lv_iload_n (pc := 86) hx hb dX6_copy_86 rfl (lv_at hl 2 rfl) ?_
                refine lv_iload (pc := 87) hx hb dX6_copy_87 (lv_at hl 5 rfl) ?_
                refine pv_vRO (pc := 89) (rest := []) (st1 := [.int (m_X3_has x2 x5 (w0.2.2.2.2.2.1 3))]) (ws := pv_wX E a w0) [.int x2, .int x5] ⟨hx, hb, hml, hown, hts⟩ hE hA hS hP (hD w0) (c_X3_has l E (a 34) (a 35) x2 x5 (w0.2.2.2.2.2.1 3)) (cwV 2 hts gX6_copy_X3_has rfl rfl rfl (by decide +kernel) ⟨(Nat.le_of_ble_eq_true rfl), (Nat.le_of_ble_eq_true rfl)⟩) (va_recv hK hP (ci := 1) (q0 := 34) rfl rfl) [34, 35] rfl rfl rfl hl.1 rfl rfl (Nat.le_of_ble_eq_true rfl) dX6_copy_89 ⟨Nat.zero_le _, Nat.zero_le _⟩ (fun locs hS => ?_)
                refine lv_if_eq (pc := 92) (tgt := 111) hx hb dX6_copy_92 (by decide) (fun c_164 => ?_) (fun c_164 => ?_)
                · have hq := pv_pos c_164 hq
                  exact B_111 w0 H locs ls hP hS (lv_sub hl [0] rfl) hq
                · have hq := pv_neg c_164 hq
                  refine lv_aload_n (pc := 95) hx hb dX6_copy_95 rfl (lv_at hl 0 rfl) ?_
                  refine va_get (pc := 96) (D := E.1) (ci := 4) (v := .ref (a 27)) (C := RX6) (T := TX6) (N := 8) hx hb hts i_RX6 hown hK hP 0 rfl rfl 5 (Nat.le_of_ble_eq_true rfl) fl_38 (fun _ h9 => h9) rfl dX6_copy_96 ?_
                  refine lv_iload_n (pc := 99) hx hb dX6_copy_99 rfl (lv_at hl 3 rfl) ?_
                  obtain ⟨h_165, hq⟩ := pv_gd_some hq
                  refine va_aldq (pc := 100) (D := E.1) hx hb hK hP 27 2 rfl rfl h_165 dX6_copy_100 ?_
                  refine W.eq (g2 := F0 m 101 ls [.ref (a 28)]) rfl ?_
                  refine lv_iload (pc := 101) hx hb dX6_copy_101 (lv_at hl 4 rfl) ?_
                  refine lv_iload (pc := 103) hx hb dX6_copy_103 (lv_at hl 5 rfl) ?_
                  refine pv_vRO (pc := 105) (rest := []) (st1 := [.int (m_X3_has x4 x5 (w0.2.2.2.2.2.1 0))]) (ws := pv_wX E a w0) [.int x4, .int x5] ⟨hx, hb, hml, hown, hts⟩ hE hA hS hP (hD w0) (c_X3_has l E (a 28) (a 29) x4 x5 (w0.2.2.2.2.2.1 0)) (cwV 2 hts gX6_copy_X3_has rfl rfl rfl (by decide +kernel) ⟨(Nat.le_of_ble_eq_true rfl), (Nat.le_of_ble_eq_true rfl)⟩) (va_recv hK hP (ci := 1) (q0 := 28) rfl rfl) [28, 29] rfl rfl rfl hl.1 rfl rfl (Nat.le_of_ble_eq_true rfl) dX6_copy_105 ⟨Nat.zero_le _, Nat.zero_le _⟩ (fun locs hS => ?_)
                  refine lv_if_ne (pc := 108) (tgt := 118) hx hb dX6_copy_108 (by decide) (fun c_166 => ?_) (fun c_166 => ?_)
                  · have hq := pv_neg c_166 hq
                    refine lv_aload_n (pc := 118) hx hb dX6_copy_118 rfl (lv_at hl 0 rfl) ?_
                    refine va_get (pc := 119) (D := E.1) (ci := 4) (v := .ref (a 27)) (C := RX6) (T := TX6) (N := 8) hx hb hts i_RX6 hown hK hP 0 rfl rfl 5 (Nat.le_of_ble_eq_true rfl) fl_38 (fun _ h9 => h9) rfl dX6_copy_119 ?_
                    refine lv_iload_n (pc := 122) hx hb dX6_copy_122 rfl (lv_at hl 1 rfl) ?_
                    obtain ⟨h_167, hq⟩ := pv_gd_some hq
                    refine va_aldq (pc := 123) (D := E.1) hx hb hK hP 27 2 rfl rfl h_167 dX6_copy_123 ?_
                    refine W.eq (g2 := F0 m 124 ls [.ref (a 34)]) rfl ?_
                    refine va_get (pc := 124) (D := E.1) (ci := 1) (v := .ref (a 35)) (C := RX3) (T := TX3) (N := 3) hx hb hts i_RX3 hown hK hP 34 rfl rfl 0 (Nat.le_of_ble_eq_true rfl) fl_214 (fun _ h9 => h9) rfl dX6_copy_124 ?_
                    refine lv_iload_n (pc := 127) hx hb dX6_copy_127 rfl (lv_at hl 2 rfl) ?_
                    refine lv_aload_n (pc := 128) hx hb dX6_copy_128 rfl (lv_at hl 0 rfl) ?_
                    refine va_get (pc := 129) (D := E.1) (ci := 4) (v := .ref (a 27)) (C := RX6) (T := TX6) (N := 8) hx hb hts i_RX6 hown hK hP 0 rfl rfl 5 (Nat.le_of_ble_eq_true rfl) fl_38 (fun _ h9 => h9) rfl dX6_copy_129 ?_
                    refine lv_iload_n (pc := 132) hx hb dX6_copy_132 rfl (lv_at hl 3 rfl) ?_
                    obtain ⟨h_168, hq⟩ := pv_gd_some hq
                    refine va_aldq (pc := 133) (D := E.1) hx hb hK hP 27 2 rfl rfl h_168 dX6_copy_133 ?_
                    refine W.eq (g2 := F0 m 134 ls [.ref (a 28), .int x2, .ref (a 35)]) rfl ?_
                    refine va_get (pc := 134) (D := E.1) (ci := 1) (v := .ref (a 29)) (C := RX3) (T := TX3) (N := 3) hx hb hts i_RX3 hown hK hP 28 rfl rfl 0 (Nat.le_of_ble_eq_true rfl) fl_214 (fun _ h9 => h9) rfl dX6_copy_134 ?_
                    refine lv_iload (pc := 137) hx hb dX6_copy_137 (lv_at hl 4 rfl) ?_
                    refine lv_iload (pc := 139) hx hb dX6_copy_139 (lv_at hl 5 rfl) ?_
                    obtain ⟨h_169, hq⟩ := pv_gc_some hq
                    refine va_copyl (pc := 141) (D := E.1) hx hb (by rw [hml]; exact hl.1.symm) hown ac_l ac_n ac_s ac_i hK hP (hD w0) hS 35 29 1 1 rfl rfl rfl rfl rfl h_169.1 h_169.2.1 h_169.2.2.1 h_169.2.2.2.1 h_169.2.2.2.2 (fun _ _ => rfl) (Nat.le_of_ble_eq_true rfl) (by decide) dX6_copy_141 (fun H locs hP _ hS => ?_)
                    have hP : va_P E.1 vwCl (pv_wX E a (w0.1, w0.2.1, w0.2.2.1, w0.2.2.2.1, w0.2.2.2.2.1, (va_up w0.2.2.2.2.2.1 0 ((w0.2.2.2.2.2.1 0).1, (w0.2.2.2.2.2.1 0).2.1, (va_cpy (w0.2.2.2.2.2.1 3).2.2 (w0.2.2.2.2.2.1 0).2.2 x2.toNatClampNeg x4.toNatClampNeg x5.toNatClampNeg))), w0.2.2.2.2.2.2.1, w0.2.2.2.2.2.2.2)) H := hP
                    refine lv_iload (pc := 144) hx hb dX6_copy_144 (lv_at hl 5 rfl) ?_
                    exact pv_riRW (w := fun w : pv_XT => pv_wX E a w) hx hb hr hlk hAe hS hP (Option.some.inj hq) dX6_copy_146
                  · have hq := pv_pos c_166 hq
                    exact B_111 w0 H locs ls hP hS (lv_sub hl [0] rfl) hq
              · have hq := pv_neg c_162 hq
                refine lv_aload_n (pc := 73) hx hb dX6_copy_73 rfl (lv_at hl 0 rfl) ?_
                refine lv_ldc (pc := 74) hx hb hown lc_127 dX6_copy_74 ?_
                obtain ⟨u_170, hu_170, hq⟩ := pv_bind hq
                refine pv_vRWf (pc := 76) (rest := []) (st1 := [.int u_170.1]) (ws := pv_wX E a w0) [.int (-1000000003)] ⟨hx, hb, hml, hown, hts⟩ hE hA hS hP (hD w0) (c_X6_finding l E a (-1000000003) w0 u_170 hu_170) (cwV 1 hts gX6_copy_X6_finding rfl rfl rfl (by decide +kernel) ⟨(Nat.le_of_ble_eq_true rfl), (Nat.le_of_ble_eq_true rfl)⟩) (va_recv hK hP (ci := 4) (q0 := 0) rfl rfl) rfl hl.1 rfl rfl (Nat.le_of_ble_eq_true rfl) dX6_copy_76 ⟨Nat.zero_le _, Nat.zero_le _⟩ (fun H locs hP hS => ?_)
                have hP : va_P E.1 vwCl (pv_wX E a u_170.2) H := hP
                exact pv_riRW (w := fun w : pv_XT => pv_wX E a w) hx hb hr hlk hAe hS hP (Option.some.inj hq) dX6_copy_79
            · have hq := pv_neg c_159 hq
              exact B_45 w0 H locs ls hP hS (lv_sub hl [0] rfl) hq
          · rw [pv_cl1] at hq
            have hl : lv_has ls 6 [(0, .ref (a 0)), (1, .int 3), (2, .int x2), (3, .int 1), (4, .int x4), (5, .int x5)] := hl
            refine va_aldq (pc := 38) (D := E.1) hx hb hK hP 27 2 rfl rfl h_158 dX6_copy_38 ?_
            refine W.eq (g2 := F0 m 39 ls [.ref (a 30)]) rfl ?_
            refine pv_vRO (pc := 39) (rest := []) (st1 := [.int (m_X3_isMissing (w0.2.2.2.2.2.1 1))]) (ws := pv_wX E a w0) [] ⟨hx, hb, hml, hown, hts⟩ hE hA hS hP (hD w0) (c_X3_isMissing l E (a 30) (a 31) (w0.2.2.2.2.2.1 1)) (cwV 0 hts gX6_copy_X3_isMissing rfl rfl rfl (by decide +kernel) ⟨(Nat.le_of_ble_eq_true rfl), (Nat.le_of_ble_eq_true rfl)⟩) (va_recv hK hP (ci := 1) (q0 := 30) rfl rfl) [30, 31] rfl rfl rfl hl.1 rfl rfl (Nat.le_of_ble_eq_true rfl) dX6_copy_39 ⟨Nat.zero_le _, Nat.zero_le _⟩ (fun locs hS => ?_)
            refine lv_if_eq (pc := 42) (tgt := 52) hx hb dX6_copy_42 (by decide) (fun c_171 => ?_) (fun c_171 => ?_)
            · have hq := pv_pos c_171 hq
              refine lv_aload_n (pc := 52) hx hb dX6_copy_52 rfl (lv_at hl 0 rfl) ?_
              refine va_get (pc := 53) (D := E.1) (ci := 4) (v := .ref (a 27)) (C := RX6) (T := TX6) (N := 8) hx hb hts i_RX6 hown hK hP 0 rfl rfl 5 (Nat.le_of_ble_eq_true rfl) fl_38 (fun _ h9 => h9) rfl dX6_copy_53 ?_
              refine lv_iload_n (pc := 56) hx hb dX6_copy_56 rfl (lv_at hl 1 rfl) ?_
              obtain ⟨h_172, hq⟩ := pv_gd_some hq
              refine va_aldq (pc := 57) (D := E.1) hx hb hK hP 27 2 rfl rfl h_172 dX6_copy_57 ?_
              refine W.eq (g2 := F0 m 58 ls [.ref (a 34)]) rfl ?_
              refine va_get (pc := 58) (D := E.1) (ci := 1) (v := .int ((w0.2.2.2.2.2.1 3).1)) (C := RX3) (T := TX3) (N := 3) hx hb hts i_RX3 hown hK hP 34 rfl rfl 1 (Nat.le_of_ble_eq_true rfl) fl_225 (fun _ h9 => h9) rfl dX6_copy_58 ?_
              refine lv_aload_n (pc := 61) hx hb dX6_copy_61 rfl (lv_at hl 0 rfl) ?_
              refine va_get (pc := 62) (D := E.1) (ci := 4) (v := .ref (a 27)) (C := RX6) (T := TX6) (N := 8) hx hb hts i_RX6 hown hK hP 0 rfl rfl 5 (Nat.le_of_ble_eq_true rfl) fl_38 (fun _ h9 => h9) rfl dX6_copy_62 ?_
              refine lv_iload_n (pc := 65) hx hb dX6_copy_65 rfl (lv_at hl 3 rfl) ?_
              obtain ⟨h_173, hq⟩ := pv_gd_some hq
              refine va_aldq (pc := 66) (D := E.1) hx hb hK hP 27 2 rfl rfl h_173 dX6_copy_66 ?_
              refine W.eq (g2 := F0 m 67 ls [.ref (a 30), .int ((w0.2.2.2.2.2.1 3).1)]) rfl ?_
              refine va_get (pc := 67) (D := E.1) (ci := 1) (v := .int ((w0.2.2.2.2.2.1 1).1)) (C := RX3) (T := TX3) (N := 3) hx hb hts i_RX3 hown hK hP 30 rfl rfl 1 (Nat.le_of_ble_eq_true rfl) fl_225 (fun _ h9 => h9) rfl dX6_copy_67 ?_
              refine lv_icmp_eq (pc := 70) (tgt := 80) hx hb dX6_copy_70 (by decide) (fun c_174 => ?_) (fun c_174 => ?_)
              · have hq := pv_pos c_174 hq
                refine lv_aload_n (pc := 80) hx hb dX6_copy_80 rfl (lv_at hl 0 rfl) ?_
                refine va_get (pc := 81) (D := E.1) (ci := 4) (v := .ref (a 27)) (C := RX6) (T := TX6) (N := 8) hx hb hts i_RX6 hown hK hP 0 rfl rfl 5 (Nat.le_of_ble_eq_true rfl) fl_38 (fun _ h9 => h9) rfl dX6_copy_81 ?_
                refine lv_iload_n (pc := 84) hx hb dX6_copy_84 rfl (lv_at hl 1 rfl) ?_
                obtain ⟨h_175, hq⟩ := pv_gd_some hq
                refine va_aldq (pc := 85) (D := E.1) hx hb hK hP 27 2 rfl rfl h_175 dX6_copy_85 ?_
                refine W.eq (g2 := F0 m 86 ls [.ref (a 34)]) rfl ?_
                refine lv_iload_n (pc := 86) hx hb dX6_copy_86 rfl (lv_at hl 2 rfl) ?_
                refine lv_iload (pc := 87) hx hb dX6_copy_87 (lv_at hl 5 rfl) ?_
                refine pv_vRO (pc := 89) (rest := []) (st1 := [.int (m_X3_has x2 x5 (w0.2.2.2.2.2.1 3))]) (ws := pv_wX E a w0) [.int x2, .int x5] ⟨hx, hb, hml, hown, hts⟩ hE hA hS hP (hD w0) (c_X3_has l E (a 34) (a 35) x2 x5 (w0.2.2.2.2.2.1 3)) (cwV 2 hts gX6_copy_X3_has rfl rfl rfl (by decide +kernel) ⟨(Nat.le_of_ble_eq_true rfl), (Nat.le_of_ble_eq_true rfl)⟩) (va_recv hK hP (ci := 1) (q0 := 34) rfl rfl) [34, 35] rfl rfl rfl hl.1 rfl rfl (Nat.le_of_ble_eq_true rfl) dX6_copy_89 ⟨Nat.zero_le _, Nat.zero_le _⟩ (fun locs hS => ?_)
                refine lv_if_eq (pc := 92) (tgt := 111) hx hb dX6_copy_92 (by decide) (fun c_176 => ?_) (fun c_176 => ?_)
                · have hq := pv_pos c_176 hq
                  exact B_111 w0 H locs ls hP hS (lv_sub hl [0] rfl) hq
                · have hq := pv_neg c_176 hq
                  refine lv_aload_n (pc := 95) hx hb dX6_copy_95 rfl (lv_at hl 0 rfl) ?_
                  refine va_get (pc := 96) (D := E.1) (ci := 4) (v := .ref (a 27)) (C := RX6) (T := TX6) (N := 8) hx hb hts i_RX6 hown hK hP 0 rfl rfl 5 (Nat.le_of_ble_eq_true rfl) fl_38 (fun _ h9 => h9) rfl dX6_copy_96 ?_
                  refine lv_iload_n (pc := 99) hx hb dX6_copy_99 rfl (lv_at hl 3 rfl) ?_
                  obtain ⟨h_177, hq⟩ := pv_gd_some hq
                  refine va_aldq (pc := 100) (D := E.1) hx hb hK hP 27 2 rfl rfl h_177 dX6_copy_100 ?_
                  refine W.eq (g2 := F0 m 101 ls [.ref (a 30)]) rfl ?_
                  refine lv_iload (pc := 101) hx hb dX6_copy_101 (lv_at hl 4 rfl) ?_
                  refine lv_iload (pc := 103) hx hb dX6_copy_103 (lv_at hl 5 rfl) ?_
                  refine pv_vRO (pc := 105) (rest := []) (st1 := [.int (m_X3_has x4 x5 (w0.2.2.2.2.2.1 1))]) (ws := pv_wX E a w0) [.int x4, .int x5] ⟨hx, hb, hml, hown, hts⟩ hE hA hS hP (hD w0) (c_X3_has l E (a 30) (a 31) x4 x5 (w0.2.2.2.2.2.1 1)) (cwV 2 hts gX6_copy_X3_has rfl rfl rfl (by decide +kernel) ⟨(Nat.le_of_ble_eq_true rfl), (Nat.le_of_ble_eq_true rfl)⟩) (va_recv hK hP (ci := 1) (q0 := 30) rfl rfl) [30, 31] rfl rfl rfl hl.1 rfl rfl (Nat.le_of_ble_eq_true rfl) dX6_copy_105 ⟨Nat.zero_le _, Nat.zero_le _⟩ (fun locs hS => ?_)
                  refine lv_if_ne (pc := 108) (tgt := 118) hx hb dX6_copy_108 (by decide) (fun c_178 => ?_) (fun c_178 => ?_)
                  · have hq := pv_neg c_178 hq
                    refine lv_aload_n (pc := 118) hx hb dX6_copy_118 rfl (lv_at hl 0 rfl) ?_
                    refine va_get (pc := 119) (D := E.1) (ci := 4) (v := .ref (a 27)) (C := RX6) (T := TX6) (N := 8) hx hb hts i_RX6 hown hK hP 0 rfl rfl 5 (Nat.le_of_ble_eq_true rfl) fl_38 (fun _ h9 => h9) rfl dX6_copy_119 ?_
                    refine lv_iload_n (pc := 122) hx hb dX6_copy_122 rfl (lv_at hl 1 rfl) ?_
                    obtain ⟨h_179, hq⟩ := pv_gd_some hq
                    refine va_aldq (pc := 123) (D := E.1) hx hb hK hP 27 2 rfl rfl h_179 dX6_copy_123 ?_
                    refine W.eq (g2 := F0 m 124 ls [.ref (a 34)]) rfl ?_
                    refine va_get (pc := 124) (D := E.1) (ci := 1) (v := .ref (a 35)) (C := RX3) (T := TX3) (N := 3) hx hb hts i_RX3 hown hK hP 34 rfl rfl 0 (Nat.le_of_ble_eq_true rfl) fl_214 (fun _ h9 => h9) rfl dX6_copy_124 ?_
                    refine lv_iload_n (pc := 127) hx hb dX6_copy_127 rfl (lv_at hl 2 rfl) ?_
                    refine lv_aload_n (pc := 128) hx hb dX6_copy_128 rfl (lv_at hl 0 rfl) ?_
                    refine va_get (pc := 129) (D := E.1) (ci := 4) (v := .ref (a 27)) (C := RX6) (T := TX6) (N := 8) hx hb hts i_RX6 hown hK hP 0 rfl rfl 5 (Nat.le_of_ble_eq_true rfl) fl_38 (fun _ h9 => h9) rfl dX6_copy_129 ?_
                    refine lv_iload_n (pc := 132) hx hb dX6_copy_132 rfl (lv_at hl 3 rfl) ?_
                    obtain ⟨h_180, hq⟩ := pv_gd_some hq
                    refine va_aldq (pc := 133) (D := E.1) hx hb hK hP 27 2 rfl rfl h_180 dX6_copy_133 ?_
                    refine W.eq (g2 := F0 m 134 ls [.ref (a 30), .int x2, .ref (a 35)]) rfl ?_
                    refine va_get (pc := 134) (D := E.1) (ci := 1) (v := .ref (a 31)) (C := RX3) (T := TX3) (N := 3) hx hb hts i_RX3 hown hK hP 30 rfl rfl 0 (Nat.le_of_ble_eq_true rfl) fl_214 (fun _ h9 => h9) rfl dX6_copy_134 ?_
                    refine lv_iload (pc := 137) hx hb dX6_copy_137 (lv_at hl 4 rfl) ?_
                    refine lv_iload (pc := 139) hx hb dX6_copy_139 (lv_at hl 5 rfl) ?_
                    obtain ⟨h_181, hq⟩ := pv_gc_some hq
                    refine va_copyl (pc := 141) (D := E.1) hx hb (by rw [hml]; exact hl.1.symm) hown ac_l ac_n ac_s ac_i hK hP (hD w0) hS 35 31 1 1 rfl rfl rfl rfl rfl h_181.1 h_181.2.1 h_181.2.2.1 h_181.2.2.2.1 h_181.2.2.2.2 (fun _ _ => rfl) (Nat.le_of_ble_eq_true rfl) (by decide) dX6_copy_141 (fun H locs hP _ hS => ?_)
                    have hP : va_P E.1 vwCl (pv_wX E a (w0.1, w0.2.1, w0.2.2.1, w0.2.2.2.1, w0.2.2.2.2.1, (va_up w0.2.2.2.2.2.1 1 ((w0.2.2.2.2.2.1 1).1, (w0.2.2.2.2.2.1 1).2.1, (va_cpy (w0.2.2.2.2.2.1 3).2.2 (w0.2.2.2.2.2.1 1).2.2 x2.toNatClampNeg x4.toNatClampNeg x5.toNatClampNeg))), w0.2.2.2.2.2.2.1, w0.2.2.2.2.2.2.2)) H := hP
                    refine lv_iload (pc := 144) hx hb dX6_copy_144 (lv_at hl 5 rfl) ?_
                    exact pv_riRW (w := fun w : pv_XT => pv_wX E a w) hx hb hr hlk hAe hS hP (Option.some.inj hq) dX6_copy_146
                  · have hq := pv_pos c_178 hq
                    exact B_111 w0 H locs ls hP hS (lv_sub hl [0] rfl) hq
              · have hq := pv_neg c_174 hq
                refine lv_aload_n (pc := 73) hx hb dX6_copy_73 rfl (lv_at hl 0 rfl) ?_
                refine lv_ldc (pc := 74) hx hb hown lc_127 dX6_copy_74 ?_
                obtain ⟨u_182, hu_182, hq⟩ := pv_bind hq
                refine pv_vRWf (pc := 76) (rest := []) (st1 := [.int u_182.1]) (ws := pv_wX E a w0) [.int (-1000000003)] ⟨hx, hb, hml, hown, hts⟩ hE hA hS hP (hD w0) (c_X6_finding l E a (-1000000003) w0 u_182 hu_182) (cwV 1 hts gX6_copy_X6_finding rfl rfl rfl (by decide +kernel) ⟨(Nat.le_of_ble_eq_true rfl), (Nat.le_of_ble_eq_true rfl)⟩) (va_recv hK hP (ci := 4) (q0 := 0) rfl rfl) rfl hl.1 rfl rfl (Nat.le_of_ble_eq_true rfl) dX6_copy_76 ⟨Nat.zero_le _, Nat.zero_le _⟩ (fun H locs hP hS => ?_)
                have hP : va_P E.1 vwCl (pv_wX E a u_182.2) H := hP
                exact pv_riRW (w := fun w : pv_XT => pv_wX E a w) hx hb hr hlk hAe hS hP (Option.some.inj hq) dX6_copy_79
            · have hq := pv_neg c_171 hq
              exact B_45 w0 H locs ls hP hS (lv_sub hl [0] rfl) hq
          · rw [pv_cl2] at hq
            have hl : lv_has ls 6 [(0, .ref (a 0)), (1, .int 3), (2, .int x2), (3, .int 2), (4, .int x4), (5, .int x5)] := hl
            refine va_aldq (pc := 38) (D := E.1) hx hb hK hP 27 2 rfl rfl h_158 dX6_copy_38 ?_
            refine W.eq (g2 := F0 m 39 ls [.ref (a 32)]) rfl ?_
            refine pv_vRO (pc := 39) (rest := []) (st1 := [.int (m_X3_isMissing (w0.2.2.2.2.2.1 2))]) (ws := pv_wX E a w0) [] ⟨hx, hb, hml, hown, hts⟩ hE hA hS hP (hD w0) (c_X3_isMissing l E (a 32) (a 33) (w0.2.2.2.2.2.1 2)) (cwV 0 hts gX6_copy_X3_isMissing rfl rfl rfl (by decide +kernel) ⟨(Nat.le_of_ble_eq_true rfl), (Nat.le_of_ble_eq_true rfl)⟩) (va_recv hK hP (ci := 1) (q0 := 32) rfl rfl) [32, 33] rfl rfl rfl hl.1 rfl rfl (Nat.le_of_ble_eq_true rfl) dX6_copy_39 ⟨Nat.zero_le _, Nat.zero_le _⟩ (fun locs hS => ?_)
            refine lv_if_eq (pc := 42) (tgt := 52) hx hb dX6_copy_42 (by decide) (fun c_183 => ?_) (fun c_183 => ?_)
            · have hq := pv_pos c_183 hq
              refine lv_aload_n (pc := 52) hx hb dX6_copy_52 rfl (lv_at hl 0 rfl) ?_
              refine va_get (pc := 53) (D := E.1) (ci := 4) (v := .ref (a 27)) (C := RX6) (T := TX6) (N := 8) hx hb hts i_RX6 hown hK hP 0 rfl rfl 5 (Nat.le_of_ble_eq_true rfl) fl_38 (fun _ h9 => h9) rfl dX6_copy_53 ?_
              refine lv_iload_n (pc := 56) hx hb dX6_copy_56 rfl (lv_at hl 1 rfl) ?_
              obtain ⟨h_184, hq⟩ := pv_gd_some hq
              refine va_aldq (pc := 57) (D := E.1) hx hb hK hP 27 2 rfl rfl h_184 dX6_copy_57 ?_
              refine W.eq (g2 := F0 m 58 ls [.ref (a 34)]) rfl ?_
              refine va_get (pc := 58) (D := E.1) (ci := 1) (v := .int ((w0.2.2.2.2.2.1 3).1)) (C := RX3) (T := TX3) (N := 3) hx hb hts i_RX3 hown hK hP 34 rfl rfl 1 (Nat.le_of_ble_eq_true rfl) fl_225 (fun _ h9 => h9) rfl dX6_copy_58 ?_
              refine lv_aload_n (pc := 61) hx hb dX6_copy_61 rfl (lv_at hl 0 rfl) ?_
              refine va_get (pc := 62) (D := E.1) (ci := 4) (v := .ref (a 27)) (C := RX6) (T := TX6) (N := 8) hx hb hts i_RX6 hown hK hP 0 rfl rfl 5 (Nat.le_of_ble_eq_true rfl) fl_38 (fun _ h9 => h9) rfl dX6_copy_62 ?_
              refine lv_iload_n (pc := 65) hx hb dX6_copy_65 rfl (lv_at hl 3 rfl) ?_
              obtain ⟨h_185, hq⟩ := pv_gd_some hq
              refine va_aldq (pc := 66) (D := E.1) hx hb hK hP 27 2 rfl rfl h_185 dX6_copy_66 ?_
              refine W.eq (g2 := F0 m 67 ls [.ref (a 32), .int ((w0.2.2.2.2.2.1 3).1)]) rfl ?_
              refine va_get (pc := 67) (D := E.1) (ci := 1) (v := .int ((w0.2.2.2.2.2.1 2).1)) (C := RX3) (T := TX3) (N := 3) hx hb hts i_RX3 hown hK hP 32 rfl rfl 1 (Nat.le_of_ble_eq_true rfl) fl_225 (fun _ h9 => h9) rfl dX6_copy_67 ?_
              refine lv_icmp_eq (pc := 70) (tgt := 80) hx hb dX6_copy_70 (by decide) (fun c_186 => ?_) (fun c_186 => ?_)
              · have hq := pv_pos c_186 hq
                refine lv_aload_n (pc := 80) hx hb dX6_copy_80 rfl (lv_at hl 0 rfl) ?_
                refine va_get (pc := 81) (D := E.1) (ci := 4) (v := .ref (a 27)) (C := RX6) (T := TX6) (N := 8) hx hb hts i_RX6 hown hK hP 0 rfl rfl 5 (Nat.le_of_ble_eq_true rfl) fl_38 (fun _ h9 => h9) rfl dX6_copy_81 ?_
                refine lv_iload_n (pc := 84) hx hb dX6_copy_84 rfl (lv_at hl 1 rfl) ?_
                obtain ⟨h_187, hq⟩ := pv_gd_some hq
                refine va_aldq (pc := 85) (D := E.1) hx hb hK hP 27 2 rfl rfl h_187 dX6_copy_85 ?_
                refine W.eq (g2 := F0 m 86 ls [.ref (a 34)]) rfl ?_
                refine lv_iload_n (pc := 86) hx hb dX6_copy_86 rfl (lv_at hl 2 rfl) ?_
                refine lv_iload (pc := 87) hx hb dX6_copy_87 (lv_at hl 5 rfl) ?_
                refine pv_vRO (pc := 89) (rest := []) (st1 := [.int (m_X3_has x2 x5 (w0.2.2.2.2.2.1 3))]) (ws := pv_wX E a w0) [.int x2, .int x5] ⟨hx, hb, hml, hown, hts⟩ hE hA hS hP (hD w0) (c_X3_has l E (a 34) (a 35) x2 x5 (w0.2.2.2.2.2.1 3)) (cwV 2 hts gX6_copy_X3_has rfl rfl rfl (by decide +kernel) ⟨(Nat.le_of_ble_eq_true rfl), (Nat.le_of_ble_eq_true rfl)⟩) (va_recv hK hP (ci := 1) (q0 := 34) rfl rfl) [34, 35] rfl rfl rfl hl.1 rfl rfl (Nat.le_of_ble_eq_true rfl) dX6_copy_89 ⟨Nat.zero_le _, Nat.zero_le _⟩ (fun locs hS => ?_)
                refine lv_if_eq (pc := 92) (tgt := 111) hx hb dX6_copy_92 (by decide) (fun c_188 => ?_) (fun c_188 => ?_)
                · have hq := pv_pos c_188 hq
                  exact B_111 w0 H locs ls hP hS (lv_sub hl [0] rfl) hq
                · have hq := pv_neg c_188 hq
                  refine lv_aload_n (pc := 95) hx hb dX6_copy_95 rfl (lv_at hl 0 rfl) ?_
                  refine va_get (pc := 96) (D := E.1) (ci := 4) (v := .ref (a 27)) (C := RX6) (T := TX6) (N := 8) hx hb hts i_RX6 hown hK hP 0 rfl rfl 5 (Nat.le_of_ble_eq_true rfl) fl_38 (fun _ h9 => h9) rfl dX6_copy_96 ?_
                  refine lv_iload_n (pc := 99) hx hb dX6_copy_99 rfl (lv_at hl 3 rfl) ?_
                  obtain ⟨h_189, hq⟩ := pv_gd_some hq
                  refine va_aldq (pc := 100) (D := E.1) hx hb hK hP 27 2 rfl rfl h_189 dX6_copy_100 ?_
                  refine W.eq (g2 := F0 m 101 ls [.ref (a 32)]) rfl ?_
                  refine lv_iload (pc := 101) hx hb dX6_copy_101 (lv_at hl 4 rfl) ?_
                  refine lv_iload (pc := 103) hx hb dX6_copy_103 (lv_at hl 5 rfl) ?_
                  refine pv_vRO (pc := 105) (rest := []) (st1 := [.int (m_X3_has x4 x5 (w0.2.2.2.2.2.1 2))]) (ws := pv_wX E a w0) [.int x4, .int x5] ⟨hx, hb, hml, hown, hts⟩ hE hA hS hP (hD w0) (c_X3_has l E (a 32) (a 33) x4 x5 (w0.2.2.2.2.2.1 2)) (cwV 2 hts gX6_copy_X3_has rfl rfl rfl (by decide +kernel) ⟨(Nat.le_of_ble_eq_true rfl), (Nat.le_of_ble_eq_true rfl)⟩) (va_recv hK hP (ci := 1) (q0 := 32) rfl rfl) [32, 33] rfl rfl rfl hl.1 rfl rfl (Nat.le_of_ble_eq_true rfl) dX6_copy_105 ⟨Nat.zero_le _, Nat.zero_le _⟩ (fun locs hS => ?_)
                  refine lv_if_ne (pc := 108) (tgt := 118) hx hb dX6_copy_108 (by decide) (fun c_190 => ?_) (fun c_190 => ?_)
                  · have hq := pv_neg c_190 hq
                    refine lv_aload_n (pc := 118) hx hb dX6_copy_118 rfl (lv_at hl 0 rfl) ?_
                    refine va_get (pc := 119) (D := E.1) (ci := 4) (v := .ref (a 27)) (C := RX6) (T := TX6) (N := 8) hx hb hts i_RX6 hown hK hP 0 rfl rfl 5 (Nat.le_of_ble_eq_true rfl) fl_38 (fun _ h9 => h9) rfl dX6_copy_119 ?_
                    refine lv_iload_n (pc := 122) hx hb dX6_copy_122 rfl (lv_at hl 1 rfl) ?_
                    obtain ⟨h_191, hq⟩ := pv_gd_some hq
                    refine va_aldq (pc := 123) (D := E.1) hx hb hK hP 27 2 rfl rfl h_191 dX6_copy_123 ?_
                    refine W.eq (g2 := F0 m 124 ls [.ref (a 34)]) rfl ?_
                    refine va_get (pc := 124) (D := E.1) (ci := 1) (v := .ref (a 35)) (C := RX3) (T := TX3) (N := 3) hx hb hts i_RX3 hown hK hP 34 rfl rfl 0 (Nat.le_of_ble_eq_true rfl) fl_214 (fun _ h9 => h9) rfl dX6_copy_124 ?_
                    refine lv_iload_n (pc := 127) hx hb dX6_copy_127 rfl (lv_at hl 2 rfl) ?_
                    refine lv_aload_n (pc := 128) hx hb dX6_copy_128 rfl (lv_at hl 0 rfl) ?_
                    refine va_get (pc := 129) (D := E.1) (ci := 4) (v := .ref (a 27)) (C := RX6) (T := TX6) (N := 8) hx hb hts i_RX6 hown hK hP 0 rfl rfl 5 (Nat.le_of_ble_eq_true rfl) fl_38 (fun _ h9 => h9) rfl dX6_copy_129 ?_
                    refine lv_iload_n (pc := 132) hx hb dX6_copy_132 rfl (lv_at hl 3 rfl) ?_
                    obtain ⟨h_192, hq⟩ := pv_gd_some hq
                    refine va_aldq (pc := 133) (D := E.1) hx hb hK hP 27 2 rfl rfl h_192 dX6_copy_133 ?_
                    refine W.eq (g2 := F0 m 134 ls [.ref (a 32), .int x2, .ref (a 35)]) rfl ?_
                    refine va_get (pc := 134) (D := E.1) (ci := 1) (v := .ref (a 33)) (C := RX3) (T := TX3) (N := 3) hx hb hts i_RX3 hown hK hP 32 rfl rfl 0 (Nat.le_of_ble_eq_true rfl) fl_214 (fun _ h9 => h9) rfl dX6_copy_134 ?_
                    refine lv_iload (pc := 137) hx hb dX6_copy_137 (lv_at hl 4 rfl) ?_
                    refine lv_iload (pc := 139) hx hb dX6_copy_139 (lv_at hl 5 rfl) ?_
                    obtain ⟨h_193, hq⟩ := pv_gc_some hq
                    refine va_copyl (pc := 141) (D := E.1) hx hb (by rw [hml]; exact hl.1.symm) hown ac_l ac_n ac_s ac_i hK hP (hD w0) hS 35 33 1 1 rfl rfl rfl rfl rfl h_193.1 h_193.2.1 h_193.2.2.1 h_193.2.2.2.1 h_193.2.2.2.2 (fun _ _ => rfl) (Nat.le_of_ble_eq_true rfl) (by decide) dX6_copy_141 (fun H locs hP _ hS => ?_)
                    have hP : va_P E.1 vwCl (pv_wX E a (w0.1, w0.2.1, w0.2.2.1, w0.2.2.2.1, w0.2.2.2.2.1, (va_up w0.2.2.2.2.2.1 2 ((w0.2.2.2.2.2.1 2).1, (w0.2.2.2.2.2.1 2).2.1, (va_cpy (w0.2.2.2.2.2.1 3).2.2 (w0.2.2.2.2.2.1 2).2.2 x2.toNatClampNeg x4.toNatClampNeg x5.toNatClampNeg))), w0.2.2.2.2.2.2.1, w0.2.2.2.2.2.2.2)) H := hP
                    refine lv_iload (pc := 144) hx hb dX6_copy_144 (lv_at hl 5 rfl) ?_
                    exact pv_riRW (w := fun w : pv_XT => pv_wX E a w) hx hb hr hlk hAe hS hP (Option.some.inj hq) dX6_copy_146
                  · have hq := pv_pos c_190 hq
                    exact B_111 w0 H locs ls hP hS (lv_sub hl [0] rfl) hq
              · have hq := pv_neg c_186 hq
                refine lv_aload_n (pc := 73) hx hb dX6_copy_73 rfl (lv_at hl 0 rfl) ?_
                refine lv_ldc (pc := 74) hx hb hown lc_127 dX6_copy_74 ?_
                obtain ⟨u_194, hu_194, hq⟩ := pv_bind hq
                refine pv_vRWf (pc := 76) (rest := []) (st1 := [.int u_194.1]) (ws := pv_wX E a w0) [.int (-1000000003)] ⟨hx, hb, hml, hown, hts⟩ hE hA hS hP (hD w0) (c_X6_finding l E a (-1000000003) w0 u_194 hu_194) (cwV 1 hts gX6_copy_X6_finding rfl rfl rfl (by decide +kernel) ⟨(Nat.le_of_ble_eq_true rfl), (Nat.le_of_ble_eq_true rfl)⟩) (va_recv hK hP (ci := 4) (q0 := 0) rfl rfl) rfl hl.1 rfl rfl (Nat.le_of_ble_eq_true rfl) dX6_copy_76 ⟨Nat.zero_le _, Nat.zero_le _⟩ (fun H locs hP hS => ?_)
                have hP : va_P E.1 vwCl (pv_wX E a u_194.2) H := hP
                exact pv_riRW (w := fun w : pv_XT => pv_wX E a w) hx hb hr hlk hAe hS hP (Option.some.inj hq) dX6_copy_79
            · have hq := pv_neg c_183 hq
              exact B_45 w0 H locs ls hP hS (lv_sub hl [0] rfl) hq
          · rw [pv_cl3] at hq
            have hl : lv_has ls 6 [(0, .ref (a 0)), (1, .int 3), (2, .int x2), (3, .int 3), (4, .int x4), (5, .int x5)] := hl
            refine va_aldq (pc := 38) (D := E.1) hx hb hK hP 27 2 rfl rfl h_158 dX6_copy_38 ?_
            refine W.eq (g2 := F0 m 39 ls [.ref (a 34)]) rfl ?_
            refine pv_vRO (pc := 39) (rest := []) (st1 := [.int (m_X3_isMissing (w0.2.2.2.2.2.1 3))]) (ws := pv_wX E a w0) [] ⟨hx, hb, hml, hown, hts⟩ hE hA hS hP (hD w0) (c_X3_isMissing l E (a 34) (a 35) (w0.2.2.2.2.2.1 3)) (cwV 0 hts gX6_copy_X3_isMissing rfl rfl rfl (by decide +kernel) ⟨(Nat.le_of_ble_eq_true rfl), (Nat.le_of_ble_eq_true rfl)⟩) (va_recv hK hP (ci := 1) (q0 := 34) rfl rfl) [34, 35] rfl rfl rfl hl.1 rfl rfl (Nat.le_of_ble_eq_true rfl) dX6_copy_39 ⟨Nat.zero_le _, Nat.zero_le _⟩ (fun locs hS => ?_)
            refine lv_if_eq (pc := 42) (tgt := 52) hx hb dX6_copy_42 (by decide) (fun c_195 => ?_) (fun c_195 => ?_)
            · have hq := pv_pos c_195 hq
              refine lv_aload_n (pc := 52) hx hb dX6_copy_52 rfl (lv_at hl 0 rfl) ?_
              refine va_get (pc := 53) (D := E.1) (ci := 4) (v := .ref (a 27)) (C := RX6) (T := TX6) (N := 8) hx hb hts i_RX6 hown hK hP 0 rfl rfl 5 (Nat.le_of_ble_eq_true rfl) fl_38 (fun _ h9 => h9) rfl dX6_copy_53 ?_
              refine lv_iload_n (pc := 56) hx hb dX6_copy_56 rfl (lv_at hl 1 rfl) ?_
              obtain ⟨h_196, hq⟩ := pv_gd_some hq
              refine va_aldq (pc := 57) (D := E.1) hx hb hK hP 27 2 rfl rfl h_196 dX6_copy_57 ?_
              refine W.eq (g2 := F0 m 58 ls [.ref (a 34)]) rfl ?_
              refine va_get (pc := 58) (D := E.1) (ci := 1) (v := .int ((w0.2.2.2.2.2.1 3).1)) (C := RX3) (T := TX3) (N := 3) hx hb hts i_RX3 hown hK hP 34 rfl rfl 1 (Nat.le_of_ble_eq_true rfl) fl_225 (fun _ h9 => h9) rfl dX6_copy_58 ?_
              refine lv_aload_n (pc := 61) hx hb dX6_copy_61 rfl (lv_at hl 0 rfl) ?_
              refine va_get (pc := 62) (D := E.1) (ci := 4) (v := .ref (a 27)) (C := RX6) (T := TX6) (N := 8) hx hb hts i_RX6 hown hK hP 0 rfl rfl 5 (Nat.le_of_ble_eq_true rfl) fl_38 (fun _ h9 => h9) rfl dX6_copy_62 ?_
              refine lv_iload_n (pc := 65) hx hb dX6_copy_65 rfl (lv_at hl 3 rfl) ?_
              obtain ⟨h_197, hq⟩ := pv_gd_some hq
              refine va_aldq (pc := 66) (D := E.1) hx hb hK hP 27 2 rfl rfl h_197 dX6_copy_66 ?_
              refine W.eq (g2 := F0 m 67 ls [.ref (a 34), .int ((w0.2.2.2.2.2.1 3).1)]) rfl ?_
              refine va_get (pc := 67) (D := E.1) (ci := 1) (v := .int ((w0.2.2.2.2.2.1 3).1)) (C := RX3) (T := TX3) (N := 3) hx hb hts i_RX3 hown hK hP 34 rfl rfl 1 (Nat.le_of_ble_eq_true rfl) fl_225 (fun _ h9 => h9) rfl dX6_copy_67 ?_
              refine lv_icmp_eq (pc := 70) (tgt := 80) hx hb dX6_copy_70 (by decide) (fun c_198 => ?_) (fun c_198 => ?_)
              · have hq := pv_pos c_198 hq
                refine lv_aload_n (pc := 80) hx hb dX6_copy_80 rfl (lv_at hl 0 rfl) ?_
                refine va_get (pc := 81) (D := E.1) (ci := 4) (v := .ref (a 27)) (C := RX6) (T := TX6) (N := 8) hx hb hts i_RX6 hown hK hP 0 rfl rfl 5 (Nat.le_of_ble_eq_true rfl) fl_38 (fun _ h9 => h9) rfl dX6_copy_81 ?_
                refine lv_iload_n (pc := 84) hx hb dX6_copy_84 rfl (lv_at hl 1 rfl) ?_
                obtain ⟨h_199, hq⟩ := pv_gd_some hq
                refine va_aldq (pc := 85) (D := E.1) hx hb hK hP 27 2 rfl rfl h_199 dX6_copy_85 ?_
                refine W.eq (g2 := F0 m 86 ls [.ref (a 34)]) rfl ?_
                refine lv_iload_n (pc := 86) hx hb dX6_copy_86 rfl (lv_at hl 2 rfl) ?_
                refine lv_iload (pc := 87) hx hb dX6_copy_87 (lv_at hl 5 rfl) ?_
                refine pv_vRO (pc := 89) (rest := []) (st1 := [.int (m_X3_has x2 x5 (w0.2.2.2.2.2.1 3))]) (ws := pv_wX E a w0) [.int x2, .int x5] ⟨hx, hb, hml, hown, hts⟩ hE hA hS hP (hD w0) (c_X3_has l E (a 34) (a 35) x2 x5 (w0.2.2.2.2.2.1 3)) (cwV 2 hts gX6_copy_X3_has rfl rfl rfl (by decide +kernel) ⟨(Nat.le_of_ble_eq_true rfl), (Nat.le_of_ble_eq_true rfl)⟩) (va_recv hK hP (ci := 1) (q0 := 34) rfl rfl) [34, 35] rfl rfl rfl hl.1 rfl rfl (Nat.le_of_ble_eq_true rfl) dX6_copy_89 ⟨Nat.zero_le _, Nat.zero_le _⟩ (fun locs hS => ?_)
                refine lv_if_eq (pc := 92) (tgt := 111) hx hb dX6_copy_92 (by decide) (fun c_200 => ?_) (fun c_200 => ?_)
                · have hq := pv_pos c_200 hq
                  exact B_111 w0 H locs ls hP hS (lv_sub hl [0] rfl) hq
                · have hq := pv_neg c_200 hq
                  refine lv_aload_n (pc := 95) hx hb dX6_copy_95 rfl (lv_at hl 0 rfl) ?_
                  refine va_get (pc := 96) (D := E.1) (ci := 4) (v := .ref (a 27)) (C := RX6) (T := TX6) (N := 8) hx hb hts i_RX6 hown hK hP 0 rfl rfl 5 (Nat.le_of_ble_eq_true rfl) fl_38 (fun _ h9 => h9) rfl dX6_copy_96 ?_
                  refine lv_iload_n (pc := 99) hx hb dX6_copy_99 rfl (lv_at hl 3 rfl) ?_
                  obtain ⟨h_201, hq⟩ := pv_gd_some hq
                  refine va_aldq (pc := 100) (D := E.1) hx hb hK hP 27 2 rfl rfl h_201 dX6_copy_100 ?_
                  refine W.eq (g2 := F0 m 101 ls [.ref (a 34)]) rfl ?_
                  refine lv_iload (pc := 101) hx hb dX6_copy_101 (lv_at hl 4 rfl) ?_
                  refine lv_iload (pc := 103) hx hb dX6_copy_103 (lv_at hl 5 rfl) ?_
                  refine pv_vRO (pc := 105) (rest := []) (st1 := [.int (m_X3_has x4 x5 (w0.2.2.2.2.2.1 3))]) (ws := pv_wX E a w0) [.int x4, .int x5] ⟨hx, hb, hml, hown, hts⟩ hE hA hS hP (hD w0) (c_X3_has l E (a 34) (a 35) x4 x5 (w0.2.2.2.2.2.1 3)) (cwV 2 hts gX6_copy_X3_has rfl rfl rfl (by decide +kernel) ⟨(Nat.le_of_ble_eq_true rfl), (Nat.le_of_ble_eq_true rfl)⟩) (va_recv hK hP (ci := 1) (q0 := 34) rfl rfl) [34, 35] rfl rfl rfl hl.1 rfl rfl (Nat.le_of_ble_eq_true rfl) dX6_copy_105 ⟨Nat.zero_le _, Nat.zero_le _⟩ (fun locs hS => ?_)
                  refine lv_if_ne (pc := 108) (tgt := 118) hx hb dX6_copy_108 (by decide) (fun c_202 => ?_) (fun c_202 => ?_)
                  · have hq := pv_neg c_202 hq
                    refine lv_aload_n (pc := 118) hx hb dX6_copy_118 rfl (lv_at hl 0 rfl) ?_
                    refine va_get (pc := 119) (D := E.1) (ci := 4) (v := .ref (a 27)) (C := RX6) (T := TX6) (N := 8) hx hb hts i_RX6 hown hK hP 0 rfl rfl 5 (Nat.le_of_ble_eq_true rfl) fl_38 (fun _ h9 => h9) rfl dX6_copy_119 ?_
                    refine lv_iload_n (pc := 122) hx hb dX6_copy_122 rfl (lv_at hl 1 rfl) ?_
                    obtain ⟨h_203, hq⟩ := pv_gd_some hq
                    refine va_aldq (pc := 123) (D := E.1) hx hb hK hP 27 2 rfl rfl h_203 dX6_copy_123 ?_
                    refine W.eq (g2 := F0 m 124 ls [.ref (a 34)]) rfl ?_
                    refine va_get (pc := 124) (D := E.1) (ci := 1) (v := .ref (a 35)) (C := RX3) (T := TX3) (N := 3) hx hb hts i_RX3 hown hK hP 34 rfl rfl 0 (Nat.le_of_ble_eq_true rfl) fl_214 (fun _ h9 => h9) rfl dX6_copy_124 ?_
                    refine lv_iload_n (pc := 127) hx hb dX6_copy_127 rfl (lv_at hl 2 rfl) ?_
                    refine lv_aload_n (pc := 128) hx hb dX6_copy_128 rfl (lv_at hl 0 rfl) ?_
                    refine va_get (pc := 129) (D := E.1) (ci := 4) (v := .ref (a 27)) (C := RX6) (T := TX6) (N := 8) hx hb hts i_RX6 hown hK hP 0 rfl rfl 5 (Nat.le_of_ble_eq_true rfl) fl_38 (fun _ h9 => h9) rfl dX6_copy_129 ?_
                    refine lv_iload_n (pc := 132) hx hb dX6_copy_132 rfl (lv_at hl 3 rfl) ?_
                    obtain ⟨h_204, hq⟩ := pv_gd_some hq
                    refine va_aldq (pc := 133) (D := E.1) hx hb hK hP 27 2 rfl rfl h_204 dX6_copy_133 ?_
                    refine W.eq (g2 := F0 m 134 ls [.ref (a 34), .int x2, .ref (a 35)]) rfl ?_
                    refine va_get (pc := 134) (D := E.1) (ci := 1) (v := .ref (a 35)) (C := RX3) (T := TX3) (N := 3) hx hb hts i_RX3 hown hK hP 34 rfl rfl 0 (Nat.le_of_ble_eq_true rfl) fl_214 (fun _ h9 => h9) rfl dX6_copy_134 ?_
                    refine lv_iload (pc := 137) hx hb dX6_copy_137 (lv_at hl 4 rfl) ?_
                    refine lv_iload (pc := 139) hx hb dX6_copy_139 (lv_at hl 5 rfl) ?_
                    obtain ⟨h_205, hq⟩ := pv_gc_some hq
                    refine va_copyl (pc := 141) (D := E.1) hx hb (by rw [hml]; exact hl.1.symm) hown ac_l ac_n ac_s ac_i hK hP (hD w0) hS 35 35 1 1 rfl rfl rfl rfl rfl h_205.1 h_205.2.1 h_205.2.2.1 h_205.2.2.2.1 h_205.2.2.2.2 (fun _ _ => rfl) (Nat.le_of_ble_eq_true rfl) (by decide) dX6_copy_141 (fun H locs hP _ hS => ?_)
                    have hP : va_P E.1 vwCl (pv_wX E a (w0.1, w0.2.1, w0.2.2.1, w0.2.2.2.1, w0.2.2.2.2.1, (va_up w0.2.2.2.2.2.1 3 ((w0.2.2.2.2.2.1 3).1, (w0.2.2.2.2.2.1 3).2.1, (va_cpy (w0.2.2.2.2.2.1 3).2.2 (w0.2.2.2.2.2.1 3).2.2 x2.toNatClampNeg x4.toNatClampNeg x5.toNatClampNeg))), w0.2.2.2.2.2.2.1, w0.2.2.2.2.2.2.2)) H := hP
                    refine lv_iload (pc := 144) hx hb dX6_copy_144 (lv_at hl 5 rfl) ?_
                    exact pv_riRW (w := fun w : pv_XT => pv_wX E a w) hx hb hr hlk hAe hS hP (Option.some.inj hq) dX6_copy_146
                  · have hq := pv_pos c_202 hq
                    exact B_111 w0 H locs ls hP hS (lv_sub hl [0] rfl) hq
              · have hq := pv_neg c_198 hq
                refine lv_aload_n (pc := 73) hx hb dX6_copy_73 rfl (lv_at hl 0 rfl) ?_
                refine lv_ldc (pc := 74) hx hb hown lc_127 dX6_copy_74 ?_
                obtain ⟨u_206, hu_206, hq⟩ := pv_bind hq
                refine pv_vRWf (pc := 76) (rest := []) (st1 := [.int u_206.1]) (ws := pv_wX E a w0) [.int (-1000000003)] ⟨hx, hb, hml, hown, hts⟩ hE hA hS hP (hD w0) (c_X6_finding l E a (-1000000003) w0 u_206 hu_206) (cwV 1 hts gX6_copy_X6_finding rfl rfl rfl (by decide +kernel) ⟨(Nat.le_of_ble_eq_true rfl), (Nat.le_of_ble_eq_true rfl)⟩) (va_recv hK hP (ci := 4) (q0 := 0) rfl rfl) rfl hl.1 rfl rfl (Nat.le_of_ble_eq_true rfl) dX6_copy_76 ⟨Nat.zero_le _, Nat.zero_le _⟩ (fun H locs hP hS => ?_)
                have hP : va_P E.1 vwCl (pv_wX E a u_206.2) H := hP
                exact pv_riRW (w := fun w : pv_XT => pv_wX E a w) hx hb hr hlk hAe hS hP (Option.some.inj hq) dX6_copy_79
            · have hq := pv_neg c_195 hq
              exact B_45 w0 H locs ls hP hS (lv_sub hl [0] rfl) hq
    · have hq := pv_pos c_3 hq
      exact B_14 w0 H locs ls hP hS (lv_sub hl [0] rfl) hq
