def m_X6_finding (x1 : Int32) (w : pv_XT) : Option (Int32 × pv_XT) :=
  if ((-1000000001) - x1) < 0 then (some (x1, w)) else (if 7 ≤ ((-1000000001) - x1) then (some (x1, w)) else (pv_gd ((-1000000001) - x1) 7 (pv_gd ((-1000000001) - x1) 7 (some (x1, (w.1, w.2.1, w.2.2.1, w.2.2.2.1, w.2.2.2.2.1, w.2.2.2.2.2.1, (upd w.2.2.2.2.2.2.1 ((-1000000001) - x1).toNatClampNeg ((w.2.2.2.2.2.2.1 ((-1000000001) - x1).toNatClampNeg) + 1)), w.2.2.2.2.2.2.2))))))
abbrev r_X6_finding : Room := { frames := 0, cells := 0, slots := 0, locals := 0 }
set_option maxHeartbeats 4000000 in
set_option maxRecDepth 100000 in
theorem c_X6_finding (l : Launch) (E : pv_E) (a : Nat → Nat) (x1 : Int32) (w0 : pv_XT) (F : Int32 × pv_XT) (hq : m_X6_finding x1 w0 = some F) : pv_RW l E yX6_finding wsX6_finding r_X6_finding (pv_wX E a w0) [.ref (a 0), .int x1] (some (.int F.1)) (pv_wX E a F.2) := by
  intro sz
  refine pv_mk (by decide) rfl (Nat.le_of_ble_eq_true rfl) ?_
  intro p e s m args below meth c A hx hb hr hml hown hts hlk hAe hP hD0 hA hE hS ls hl
  have hown : s.vm.findClass RX6 = some m.cls := hown
  have hK := hE.1
  have hD : ∀ w : pv_XT, va_D A (pv_wX E a w) := fun w => pv_Dm (ws := pv_wX E a w0) (ws' := pv_wX E a w) rfl hD0
  have hP : va_P E.1 vwCl (pv_wX E a w0) s.heap := hP
  have lc_51 : (Cond.constant RX6 51 (-1000000001)).before args s = true := hts _ (by decide +kernel)
  have fl_42 : (Cond.fieldLink RX6 42 "ProvinceCards" "found" "[I").before args s = true := hts _ (by decide +kernel)
  have i_RX6 : ∀ w ∈ wsX60, w ∈ wsX6_finding := by decide +kernel
  have hl : lv_has ls 3 [(0, .ref (a 0)), (1, .int x1)] := hl
  suffices M0 : ∀ (H : Heap) (locs : List Loc), va_P E.1 vwCl (pv_wX E a w0) H → va_S A s.heap H locs → W p l e r_X6_finding s m args below meth c H locs 0 0 (MQ below (pv_Rw E (pv_wX E a w0) sz (some (.int F.1)) ((fun w : pv_XT => pv_wX E a w) F.2)) args s 0 0 A) (F0 m 0 ls []) from M0 s.heap [] hP hS
  intro H locs hP hS
  refine lv_ldc (pc := 0) hx hb hown lc_51 dX6_finding_0 ?_
  refine lv_iload_n (pc := 2) hx hb dX6_finding_2 rfl (lv_at hl 1 rfl) ?_
  refine lv_isub (pc := 3) hx hb dX6_finding_3 ?_
  refine lv_istore_n (pc := 4) (lv' := [(2, .int ((-1000000001) - x1)), (0, .ref (a 0)), (1, .int x1)]) hx hb dX6_finding_4 rfl hl (Nat.le_of_ble_eq_true rfl) rfl (fun ls hl => ?_)
  refine lv_iload_n (pc := 5) hx hb dX6_finding_5 rfl (lv_at hl 0 rfl) ?_
  refine lv_if_lt (pc := 6) (tgt := 25) hx hb dX6_finding_6 (by decide) (fun c_1 => ?_) (fun c_1 => ?_)
  · have hq := pv_pos c_1 hq
    refine lv_iload_n (pc := 25) hx hb dX6_finding_25 rfl (lv_at hl 2 rfl) ?_
    exact pv_riRW (w := fun w : pv_XT => pv_wX E a w) hx hb hr hlk hAe hS hP (Option.some.inj hq) dX6_finding_26
  · have hq := pv_neg c_1 hq
    refine lv_iload_n (pc := 9) hx hb dX6_finding_9 rfl (lv_at hl 0 rfl) ?_
    refine lv_bipush (pc := 10) (v := 7) hx hb dX6_finding_10 (by decide) ?_
    refine lv_icmp_ge (pc := 12) (tgt := 25) hx hb dX6_finding_12 (by decide) (fun c_2 => ?_) (fun c_2 => ?_)
    · have hq := pv_pos c_2 hq
      refine lv_iload_n (pc := 25) hx hb dX6_finding_25 rfl (lv_at hl 2 rfl) ?_
      exact pv_riRW (w := fun w : pv_XT => pv_wX E a w) hx hb hr hlk hAe hS hP (Option.some.inj hq) dX6_finding_26
    · have hq := pv_neg c_2 hq
      refine lv_aload_n (pc := 15) hx hb dX6_finding_15 rfl (lv_at hl 1 rfl) ?_
      refine va_get (pc := 16) (D := E.1) (ci := 4) (v := .ref (a 36)) (C := RX6) (T := TX6) (N := 8) hx hb hts i_RX6 hown hK hP 0 rfl rfl 6 (Nat.le_of_ble_eq_true rfl) fl_42 (fun _ h9 => h9) rfl dX6_finding_16 ?_
      refine lv_iload_n (pc := 19) hx hb dX6_finding_19 rfl (lv_at hl 0 rfl) ?_
      refine lv_dup2_11 (pc := 20) hx hb dX6_finding_20 rfl rfl ?_
      obtain ⟨h_3, hq⟩ := pv_gd_some hq
      refine va_iald (pc := 21) (D := E.1) hx hb hK hP 36 0 rfl rfl h_3 dX6_finding_21 ?_
      refine lv_iconst (pc := 22) (v := 1) hx hb dX6_finding_22 (by decide) ?_
      refine lv_iadd (pc := 23) hx hb dX6_finding_23 ?_
      obtain ⟨h_4, hq⟩ := pv_gd_some hq
      refine va_iast (pc := 24) (D := E.1) hx hb hK hP (hD w0) hS 36 0 rfl rfl h_4 dX6_finding_24 (fun H locs hP _ hS => ?_)
      have hP : va_P E.1 vwCl (pv_wX E a (w0.1, w0.2.1, w0.2.2.1, w0.2.2.2.1, w0.2.2.2.2.1, w0.2.2.2.2.2.1, (upd w0.2.2.2.2.2.2.1 ((-1000000001) - x1).toNatClampNeg ((w0.2.2.2.2.2.2.1 ((-1000000001) - x1).toNatClampNeg) + 1)), w0.2.2.2.2.2.2.2)) H := hP
      refine lv_iload_n (pc := 25) hx hb dX6_finding_25 rfl (lv_at hl 2 rfl) ?_
      exact pv_riRW (w := fun w : pv_XT => pv_wX E a w) hx hb hr hlk hAe hS hP (Option.some.inj hq) dX6_finding_26
def m_X6_isEnvoy (x1 : Int32) (w : pv_XT) : Int32 :=
  if x1 < 0 then 0 else (if w.1.2.2.1 ≤ x1 then 0 else 1)
abbrev r_X6_isEnvoy : Room := { frames := 0, cells := 0, slots := 0, locals := 0 }
set_option maxHeartbeats 4000000 in
set_option maxRecDepth 100000 in
theorem c_X6_isEnvoy (l : Launch) (E : pv_E) (a : Nat → Nat) (x1 : Int32) (w : pv_XT) : pv_RO l E yX6_isEnvoy wsX6_isEnvoy r_X6_isEnvoy (pv_wX E a w) [.ref (a 0), .int x1] (some (.int (m_X6_isEnvoy x1 w))) := by
  generalize hq : m_X6_isEnvoy x1 w = F
  intro sz
  refine pv_mk (by decide) rfl (Nat.le_of_ble_eq_true rfl) ?_
  intro p e s m args below meth c A hx hb hr hml hown hts hlk hAe hP hD0 hA hE hS ls hl
  have hown : s.vm.findClass RX6 = some m.cls := hown
  have hK := hE.1
  have hD := hD0
  have fl_10 : (Cond.fieldLink RX6 10 "ProvinceCards" "table" "LProvinceCards$Table;").before args s = true := hts _ (by decide +kernel)
  have fl_102 : (Cond.fieldLink RX6 102 "ProvinceCards$Table" "envoys" "I").before args s = true := hts _ (by decide +kernel)
  have i_RX6 : ∀ w ∈ wsX60, w ∈ wsX6_isEnvoy := by decide +kernel
  have i_RX4 : ∀ w ∈ wsX40, w ∈ wsX6_isEnvoy := by decide +kernel
  have hl : lv_has ls 2 [(0, .ref (a 0)), (1, .int x1)] := hl
  suffices M0 : ∀ (locs : List Loc), va_S A s.heap s.heap locs → W p l e r_X6_isEnvoy s m args below meth c s.heap locs 0 0 (MQ below (pv_Ro (some (.int F))) args s 0 0 A) (F0 m 0 ls []) from M0 [] hS
  intro locs hS
  refine lv_iload_n (pc := 0) hx hb dX6_isEnvoy_0 rfl (lv_at hl 1 rfl) ?_
  refine lv_if_lt (pc := 1) (tgt := 19) hx hb dX6_isEnvoy_1 (by decide) (fun c_1 => ?_) (fun c_1 => ?_)
  · have hq := pv_pos c_1 hq
    refine lv_iconst (pc := 19) (v := 0) hx hb dX6_isEnvoy_19 (by decide) ?_
    exact pv_rzRO hx hb hr hlk hS hq rfl dX6_isEnvoy_20
  · have hq := pv_neg c_1 hq
    refine lv_iload_n (pc := 4) hx hb dX6_isEnvoy_4 rfl (lv_at hl 1 rfl) ?_
    refine lv_aload_n (pc := 5) hx hb dX6_isEnvoy_5 rfl (lv_at hl 0 rfl) ?_
    refine va_get (pc := 6) (D := E.1) (ci := 4) (v := .ref (a 1)) (C := RX6) (T := TX6) (N := 8) hx hb hts i_RX6 hown hK hP 0 rfl rfl 0 (Nat.le_of_ble_eq_true rfl) fl_10 (fun _ h9 => h9) rfl dX6_isEnvoy_6 ?_
    refine va_get (pc := 9) (D := E.1) (ci := 2) (v := .int w.1.2.2.1) (C := RX4) (T := TX4) (N := 8) hx hb hts i_RX4 hown hK hP 1 rfl rfl 2 (Nat.le_of_ble_eq_true rfl) fl_102 (fun _ h9 => h9) rfl dX6_isEnvoy_9 ?_
    refine lv_icmp_ge (pc := 12) (tgt := 19) hx hb dX6_isEnvoy_12 (by decide) (fun c_2 => ?_) (fun c_2 => ?_)
    · have hq := pv_pos c_2 hq
      refine lv_iconst (pc := 19) (v := 0) hx hb dX6_isEnvoy_19 (by decide) ?_
      exact pv_rzRO hx hb hr hlk hS hq rfl dX6_isEnvoy_20
    · have hq := pv_neg c_2 hq
      refine lv_iconst (pc := 15) (v := 1) hx hb dX6_isEnvoy_15 (by decide) ?_
      refine lv_goto (pc := 16) (tgt := 20) hx hb dX6_isEnvoy_16 (by decide) ?_
      exact pv_rzRO hx hb hr hlk hS hq rfl dX6_isEnvoy_20
def m_X6_unfitSheet (x1 : Int32) (w : pv_XT) : Option (Int32) :=
  if (m_X6_isSheet x1) = 0 then (some (-1000000001)) else (pv_gd x1 4 (if (m_X3_isMissing (w.2.2.2.2.2.1 x1.toNatClampNeg)) = 0 then (some 0) else (some (-1000000006))))
abbrev r_X6_unfitSheet : Room := { frames := 1, cells := 0, slots := 0, locals := 20 }
set_option maxHeartbeats 4000000 in
set_option maxRecDepth 100000 in
theorem c_X6_unfitSheet (l : Launch) (E : pv_E) (a : Nat → Nat) (x1 : Int32) (w : pv_XT) (F : Int32) (hq : m_X6_unfitSheet x1 w = some F) : pv_RO l E yX6_unfitSheet wsX6_unfitSheet r_X6_unfitSheet (pv_wX E a w) [.ref (a 0), .int x1] (some (.int F)) := by
  intro sz
  refine pv_mk (by decide) rfl (Nat.le_of_ble_eq_true rfl) ?_
  intro p e s m args below meth c A hx hb hr hml hown hts hlk hAe hP hD0 hA hE hS ls hl
  have hown : s.vm.findClass RX6 = some m.cls := hown
  have hK := hE.1
  have hD := hD0
  have fl_38 : (Cond.fieldLink RX6 38 "ProvinceCards" "sheets" "[LProvinceCards$Sheet;").before args s = true := hts _ (by decide +kernel)
  have lc_224 : (Cond.constant RX6 224 (-1000000006)).before args s = true := hts _ (by decide +kernel)
  have lc_51 : (Cond.constant RX6 51 (-1000000001)).before args s = true := hts _ (by decide +kernel)
  have i_RX6 : ∀ w ∈ wsX60, w ∈ wsX6_unfitSheet := by decide +kernel
  have hl : lv_has ls 2 [(0, .ref (a 0)), (1, .int x1)] := hl
  suffices M0 : ∀ (locs : List Loc), va_S A s.heap s.heap locs → W p l e r_X6_unfitSheet s m args below meth c s.heap locs 0 0 (MQ below (pv_Ro (some (.int F))) args s 0 0 A) (F0 m 0 ls []) from M0 [] hS
  intro locs hS
  refine lv_iload_n (pc := 0) hx hb dX6_unfitSheet_0 rfl (lv_at hl 1 rfl) ?_
  refine pv_sRO (pc := 1) (rest := []) (st1 := [.int (m_X6_isSheet x1)]) (ws := pv_wX E a w) [.int x1] ⟨hx, hb, hml, hown, hts⟩ hE hA hS hP hD (c_X6_isSheet l E x1) (va_cwS 1 hts gX6_unfitSheet_X6_isSheet rfl rfl rfl (by decide +kernel) ⟨(Nat.le_of_ble_eq_true rfl), (Nat.le_of_ble_eq_true rfl)⟩) [] rfl rfl rfl hl.1 rfl rfl (Nat.le_of_ble_eq_true rfl) dX6_unfitSheet_1 ⟨Nat.zero_le _, Nat.zero_le _⟩ (fun locs hS => ?_)
  refine lv_if_ne (pc := 4) (tgt := 10) hx hb dX6_unfitSheet_4 (by decide) (fun c_1 => ?_) (fun c_1 => ?_)
  · have hq := pv_neg c_1 hq
    refine lv_aload_n (pc := 10) hx hb dX6_unfitSheet_10 rfl (lv_at hl 0 rfl) ?_
    refine va_get (pc := 11) (D := E.1) (ci := 4) (v := .ref (a 27)) (C := RX6) (T := TX6) (N := 8) hx hb hts i_RX6 hown hK hP 0 rfl rfl 5 (Nat.le_of_ble_eq_true rfl) fl_38 (fun _ h9 => h9) rfl dX6_unfitSheet_11 ?_
    refine lv_iload_n (pc := 14) hx hb dX6_unfitSheet_14 rfl (lv_at hl 1 rfl) ?_
    obtain ⟨h_2, hq⟩ := pv_gd_some hq
    rcases pv_sh4 h_2 with rfl | rfl | rfl | rfl
    · rw [pv_cl0] at hq
      have hl : lv_has ls 2 [(0, .ref (a 0)), (1, .int 0)] := hl
      refine va_aldq (pc := 15) (D := E.1) hx hb hK hP 27 2 rfl rfl h_2 dX6_unfitSheet_15 ?_
      refine W.eq (g2 := F0 m 16 ls [.ref (a 28)]) rfl ?_
      refine pv_vRO (pc := 16) (rest := []) (st1 := [.int (m_X3_isMissing (w.2.2.2.2.2.1 0))]) (ws := pv_wX E a w) [] ⟨hx, hb, hml, hown, hts⟩ hE hA hS hP hD (c_X3_isMissing l E (a 28) (a 29) (w.2.2.2.2.2.1 0)) (cwV 0 hts gX6_unfitSheet_X3_isMissing rfl rfl rfl (by decide +kernel) ⟨(Nat.le_of_ble_eq_true rfl), (Nat.le_of_ble_eq_true rfl)⟩) (va_recv hK hP (ci := 1) (q0 := 28) rfl rfl) [28, 29] rfl rfl rfl hl.1 rfl rfl (Nat.le_of_ble_eq_true rfl) dX6_unfitSheet_16 ⟨Nat.zero_le _, Nat.zero_le _⟩ (fun locs hS => ?_)
      refine lv_if_eq (pc := 19) (tgt := 27) hx hb dX6_unfitSheet_19 (by decide) (fun c_3 => ?_) (fun c_3 => ?_)
      · have hq := pv_pos c_3 hq
        refine lv_iconst (pc := 27) (v := 0) hx hb dX6_unfitSheet_27 (by decide) ?_
        exact pv_riRO hx hb hr hlk hS (Option.some.inj hq) dX6_unfitSheet_28
      · have hq := pv_neg c_3 hq
        refine lv_ldc (pc := 22) hx hb hown lc_224 dX6_unfitSheet_22 ?_
        refine lv_goto (pc := 24) (tgt := 28) hx hb dX6_unfitSheet_24 (by decide) ?_
        exact pv_riRO hx hb hr hlk hS (Option.some.inj hq) dX6_unfitSheet_28
    · rw [pv_cl1] at hq
      have hl : lv_has ls 2 [(0, .ref (a 0)), (1, .int 1)] := hl
      refine va_aldq (pc := 15) (D := E.1) hx hb hK hP 27 2 rfl rfl h_2 dX6_unfitSheet_15 ?_
      refine W.eq (g2 := F0 m 16 ls [.ref (a 30)]) rfl ?_
      refine pv_vRO (pc := 16) (rest := []) (st1 := [.int (m_X3_isMissing (w.2.2.2.2.2.1 1))]) (ws := pv_wX E a w) [] ⟨hx, hb, hml, hown, hts⟩ hE hA hS hP hD (c_X3_isMissing l E (a 30) (a 31) (w.2.2.2.2.2.1 1)) (cwV 0 hts gX6_unfitSheet_X3_isMissing rfl rfl rfl (by decide +kernel) ⟨(Nat.le_of_ble_eq_true rfl), (Nat.le_of_ble_eq_true rfl)⟩) (va_recv hK hP (ci := 1) (q0 := 30) rfl rfl) [30, 31] rfl rfl rfl hl.1 rfl rfl (Nat.le_of_ble_eq_true rfl) dX6_unfitSheet_16 ⟨Nat.zero_le _, Nat.zero_le _⟩ (fun locs hS => ?_)
      refine lv_if_eq (pc := 19) (tgt := 27) hx hb dX6_unfitSheet_19 (by decide) (fun c_4 => ?_) (fun c_4 => ?_)
      · have hq := pv_pos c_4 hq
        refine lv_iconst (pc := 27) (v := 0) hx hb dX6_unfitSheet_27 (by decide) ?_
        exact pv_riRO hx hb hr hlk hS (Option.some.inj hq) dX6_unfitSheet_28
      · have hq := pv_neg c_4 hq
        refine lv_ldc (pc := 22) hx hb hown lc_224 dX6_unfitSheet_22 ?_
        refine lv_goto (pc := 24) (tgt := 28) hx hb dX6_unfitSheet_24 (by decide) ?_
        exact pv_riRO hx hb hr hlk hS (Option.some.inj hq) dX6_unfitSheet_28
    · rw [pv_cl2] at hq
      have hl : lv_has ls 2 [(0, .ref (a 0)), (1, .int 2)] := hl
      refine va_aldq (pc := 15) (D := E.1) hx hb hK hP 27 2 rfl rfl h_2 dX6_unfitSheet_15 ?_
      refine W.eq (g2 := F0 m 16 ls [.ref (a 32)]) rfl ?_
      refine pv_vRO (pc := 16) (rest := []) (st1 := [.int (m_X3_isMissing (w.2.2.2.2.2.1 2))]) (ws := pv_wX E a w) [] ⟨hx, hb, hml, hown, hts⟩ hE hA hS hP hD (c_X3_isMissing l E (a 32) (a 33) (w.2.2.2.2.2.1 2)) (cwV 0 hts gX6_unfitSheet_X3_isMissing rfl rfl rfl (by decide +kernel) ⟨(Nat.le_of_ble_eq_true rfl), (Nat.le_of_ble_eq_true rfl)⟩) (va_recv hK hP (ci := 1) (q0 := 32) rfl rfl) [32, 33] rfl rfl rfl hl.1 rfl rfl (Nat.le_of_ble_eq_true rfl) dX6_unfitSheet_16 ⟨Nat.zero_le _, Nat.zero_le _⟩ (fun locs hS => ?_)
      refine lv_if_eq (pc := 19) (tgt := 27) hx hb dX6_unfitSheet_19 (by decide) (fun c_5 => ?_) (fun c_5 => ?_)
      · have hq := pv_pos c_5 hq
        refine lv_iconst (pc := 27) (v := 0) hx hb dX6_unfitSheet_27 (by decide) ?_
        exact pv_riRO hx hb hr hlk hS (Option.some.inj hq) dX6_unfitSheet_28
      · have hq := pv_neg c_5 hq
        refine lv_ldc (pc := 22) hx hb hown lc_224 dX6_unfitSheet_22 ?_
        refine lv_goto (pc := 24) (tgt := 28) hx hb dX6_unfitSheet_24 (by decide) ?_
        exact pv_riRO hx hb hr hlk hS (Option.some.inj hq) dX6_unfitSheet_28
    · rw [pv_cl3] at hq
      have hl : lv_has ls 2 [(0, .ref (a 0)), (1, .int 3)] := hl
      refine va_aldq (pc := 15) (D := E.1) hx hb hK hP 27 2 rfl rfl h_2 dX6_unfitSheet_15 ?_
      refine W.eq (g2 := F0 m 16 ls [.ref (a 34)]) rfl ?_
      refine pv_vRO (pc := 16) (rest := []) (st1 := [.int (m_X3_isMissing (w.2.2.2.2.2.1 3))]) (ws := pv_wX E a w) [] ⟨hx, hb, hml, hown, hts⟩ hE hA hS hP hD (c_X3_isMissing l E (a 34) (a 35) (w.2.2.2.2.2.1 3)) (cwV 0 hts gX6_unfitSheet_X3_isMissing rfl rfl rfl (by decide +kernel) ⟨(Nat.le_of_ble_eq_true rfl), (Nat.le_of_ble_eq_true rfl)⟩) (va_recv hK hP (ci := 1) (q0 := 34) rfl rfl) [34, 35] rfl rfl rfl hl.1 rfl rfl (Nat.le_of_ble_eq_true rfl) dX6_unfitSheet_16 ⟨Nat.zero_le _, Nat.zero_le _⟩ (fun locs hS => ?_)
      refine lv_if_eq (pc := 19) (tgt := 27) hx hb dX6_unfitSheet_19 (by decide) (fun c_6 => ?_) (fun c_6 => ?_)
      · have hq := pv_pos c_6 hq
        refine lv_iconst (pc := 27) (v := 0) hx hb dX6_unfitSheet_27 (by decide) ?_
        exact pv_riRO hx hb hr hlk hS (Option.some.inj hq) dX6_unfitSheet_28
      · have hq := pv_neg c_6 hq
        refine lv_ldc (pc := 22) hx hb hown lc_224 dX6_unfitSheet_22 ?_
        refine lv_goto (pc := 24) (tgt := 28) hx hb dX6_unfitSheet_24 (by decide) ?_
        exact pv_riRO hx hb hr hlk hS (Option.some.inj hq) dX6_unfitSheet_28
  · have hq := pv_pos c_1 hq
    refine lv_ldc (pc := 7) hx hb hown lc_51 dX6_unfitSheet_7 ?_
    exact pv_riRO hx hb hr hlk hS (Option.some.inj hq) dX6_unfitSheet_9
def m_X6_mix (x1 : Int32) (w : pv_XT) : Option (Int32 × pv_XT) :=
  if (m_X6_isMix x1) = 0 then (Option.bind (m_X6_finding (-1000000001) w) fun u_2 => (some (u_2.1, u_2.2))) else (some (w.1.2.1, ((w.1.1, x1, w.1.2.2.1, w.1.2.2.2.1, w.1.2.2.2.2.1, w.1.2.2.2.2.2.1, w.1.2.2.2.2.2.2.1, w.1.2.2.2.2.2.2.2), w.2.1, w.2.2.1, w.2.2.2.1, w.2.2.2.2.1, w.2.2.2.2.2.1, w.2.2.2.2.2.2.1, w.2.2.2.2.2.2.2)))
abbrev r_X6_mix : Room := { frames := 1, cells := 0, slots := 0, locals := 22 }
set_option maxHeartbeats 4000000 in
set_option maxRecDepth 100000 in
theorem c_X6_mix (l : Launch) (E : pv_E) (a : Nat → Nat) (x1 : Int32) (w0 : pv_XT) (F : Int32 × pv_XT) (hq : m_X6_mix x1 w0 = some F) : pv_RW l E yX6_mix wsX6_mix r_X6_mix (pv_wX E a w0) [.ref (a 0), .int x1] (some (.int F.1)) (pv_wX E a F.2) := by
  intro sz
  refine pv_mk (by decide) rfl (Nat.le_of_ble_eq_true rfl) ?_
  intro p e s m args below meth c A hx hb hr hml hown hts hlk hAe hP hD0 hA hE hS ls hl
  have hown : s.vm.findClass RX6 = some m.cls := hown
  have hK := hE.1
  have hD : ∀ w : pv_XT, va_D A (pv_wX E a w) := fun w => pv_Dm (ws := pv_wX E a w0) (ws' := pv_wX E a w) rfl hD0
  have hP : va_P E.1 vwCl (pv_wX E a w0) s.heap := hP
  have fl_10 : (Cond.fieldLink RX6 10 "ProvinceCards" "table" "LProvinceCards$Table;").before args s = true := hts _ (by decide +kernel)
  have fl_56 : (Cond.fieldLink RX6 56 "ProvinceCards$Table" "mixing" "I").before args s = true := hts _ (by decide +kernel)
  have lc_51 : (Cond.constant RX6 51 (-1000000001)).before args s = true := hts _ (by decide +kernel)
  have i_RX6 : ∀ w ∈ wsX60, w ∈ wsX6_mix := by decide +kernel
  have i_RX4 : ∀ w ∈ wsX40, w ∈ wsX6_mix := by decide +kernel
  have hl : lv_has ls 3 [(0, .ref (a 0)), (1, .int x1)] := hl
  suffices M0 : ∀ (H : Heap) (locs : List Loc), va_P E.1 vwCl (pv_wX E a w0) H → va_S A s.heap H locs → W p l e r_X6_mix s m args below meth c H locs 0 0 (MQ below (pv_Rw E (pv_wX E a w0) sz (some (.int F.1)) ((fun w : pv_XT => pv_wX E a w) F.2)) args s 0 0 A) (F0 m 0 ls []) from M0 s.heap [] hP hS
  intro H locs hP hS
  refine lv_iload_n (pc := 0) hx hb dX6_mix_0 rfl (lv_at hl 1 rfl) ?_
  refine pv_sRO (pc := 1) (rest := []) (st1 := [.int (m_X6_isMix x1)]) (ws := pv_wX E a w0) [.int x1] ⟨hx, hb, hml, hown, hts⟩ hE hA hS hP (hD w0) (c_X6_isMix l E x1) (va_cwS 1 hts gX6_mix_X6_isMix rfl rfl rfl (by decide +kernel) ⟨(Nat.le_of_ble_eq_true rfl), (Nat.le_of_ble_eq_true rfl)⟩) [] rfl rfl rfl hl.1 rfl rfl (Nat.le_of_ble_eq_true rfl) dX6_mix_1 ⟨Nat.zero_le _, Nat.zero_le _⟩ (fun locs hS => ?_)
  refine lv_if_ne (pc := 4) (tgt := 14) hx hb dX6_mix_4 (by decide) (fun c_1 => ?_) (fun c_1 => ?_)
  · have hq := pv_neg c_1 hq
    refine lv_aload_n (pc := 14) hx hb dX6_mix_14 rfl (lv_at hl 0 rfl) ?_
    refine va_get (pc := 15) (D := E.1) (ci := 4) (v := .ref (a 1)) (C := RX6) (T := TX6) (N := 8) hx hb hts i_RX6 hown hK hP 0 rfl rfl 0 (Nat.le_of_ble_eq_true rfl) fl_10 (fun _ h9 => h9) rfl dX6_mix_15 ?_
    refine va_get (pc := 18) (D := E.1) (ci := 2) (v := .int w0.1.2.1) (C := RX4) (T := TX4) (N := 8) hx hb hts i_RX4 hown hK hP 1 rfl rfl 1 (Nat.le_of_ble_eq_true rfl) fl_56 (fun _ h9 => h9) rfl dX6_mix_18 ?_
    refine lv_istore_n (pc := 21) (lv' := [(2, .int w0.1.2.1), (0, .ref (a 0)), (1, .int x1)]) hx hb dX6_mix_21 rfl hl (Nat.le_of_ble_eq_true rfl) rfl (fun ls hl => ?_)
    refine lv_aload_n (pc := 22) hx hb dX6_mix_22 rfl (lv_at hl 1 rfl) ?_
    refine va_get (pc := 23) (D := E.1) (ci := 4) (v := .ref (a 1)) (C := RX6) (T := TX6) (N := 8) hx hb hts i_RX6 hown hK hP 0 rfl rfl 0 (Nat.le_of_ble_eq_true rfl) fl_10 (fun _ h9 => h9) rfl dX6_mix_23 ?_
    refine lv_iload_n (pc := 26) hx hb dX6_mix_26 rfl (lv_at hl 2 rfl) ?_
    refine va_put (pc := 27) (D := E.1) (ci := 2) (v := .int x1) (ty := .int) (C := RX4) (T := TX4) (N := 8) hx hb hts i_RX4 tyX4 tyX4_ok nmX4 hown hK hP (hD w0) hS 1 rfl rfl 1 (Nat.le_of_ble_eq_true rfl) fl_56 (fun _ h9 => h9) rfl (tyX4_ok 1 (Nat.le_of_ble_eq_true rfl)) rfl rfl (Nat.le_of_ble_eq_true rfl) dX6_mix_27 (fun H locs hP _ hS => ?_)
    have hP : va_P E.1 vwCl (pv_wX E a ((w0.1.1, x1, w0.1.2.2.1, w0.1.2.2.2.1, w0.1.2.2.2.2.1, w0.1.2.2.2.2.2.1, w0.1.2.2.2.2.2.2.1, w0.1.2.2.2.2.2.2.2), w0.2.1, w0.2.2.1, w0.2.2.2.1, w0.2.2.2.2.1, w0.2.2.2.2.2.1, w0.2.2.2.2.2.2.1, w0.2.2.2.2.2.2.2)) H := hP
    refine lv_iload_n (pc := 30) hx hb dX6_mix_30 rfl (lv_at hl 0 rfl) ?_
    exact pv_riRW (w := fun w : pv_XT => pv_wX E a w) hx hb hr hlk hAe hS hP (Option.some.inj hq) dX6_mix_31
  · have hq := pv_pos c_1 hq
    refine lv_aload_n (pc := 7) hx hb dX6_mix_7 rfl (lv_at hl 0 rfl) ?_
    refine lv_ldc (pc := 8) hx hb hown lc_51 dX6_mix_8 ?_
    obtain ⟨u_2, hu_2, hq⟩ := pv_bind hq
    refine pv_vRWf (pc := 10) (rest := []) (st1 := [.int u_2.1]) (ws := pv_wX E a w0) [.int (-1000000001)] ⟨hx, hb, hml, hown, hts⟩ hE hA hS hP (hD w0) (c_X6_finding l E a (-1000000001) w0 u_2 hu_2) (cwV 1 hts gX6_mix_X6_finding rfl rfl rfl (by decide +kernel) ⟨(Nat.le_of_ble_eq_true rfl), (Nat.le_of_ble_eq_true rfl)⟩) (va_recv hK hP (ci := 4) (q0 := 0) rfl rfl) rfl hl.1 rfl rfl (Nat.le_of_ble_eq_true rfl) dX6_mix_10 ⟨Nat.zero_le _, Nat.zero_le _⟩ (fun H locs hP hS => ?_)
    have hP : va_P E.1 vwCl (pv_wX E a u_2.2) H := hP
    exact pv_riRW (w := fun w : pv_XT => pv_wX E a w) hx hb hr hlk hAe hS hP (Option.some.inj hq) dX6_mix_13
def m_X6_province_14  (w : pv_XT) : Option (Int32 × pv_XT) :=
  Option.bind (m_X6_finding (-1000000001) w) fun u_2 => (some (u_2.1, u_2.2))
def m_X6_province (x1 : Int32) (x2 : Int32) (w : pv_XT) : Option (Int32 × pv_XT) :=
  if (m_X6_isProvince x1) = 0 then (m_X6_province_14 w) else (if (m_X6_isStateOrNobody x2) = 0 then (m_X6_province_14 w) else (pv_gd x1 8 (pv_gd x1 8 (some ((w.1.2.2.2.1 x1.toNatClampNeg), ((w.1.1, w.1.2.1, w.1.2.2.1, (upd w.1.2.2.2.1 x1.toNatClampNeg x2), w.1.2.2.2.2.1, w.1.2.2.2.2.2.1, w.1.2.2.2.2.2.2.1, w.1.2.2.2.2.2.2.2), w.2.1, w.2.2.1, w.2.2.2.1, w.2.2.2.2.1, w.2.2.2.2.2.1, w.2.2.2.2.2.2.1, w.2.2.2.2.2.2.2))))))
abbrev r_X6_province : Room := { frames := 1, cells := 0, slots := 0, locals := 22 }
set_option maxHeartbeats 4000000 in
set_option maxRecDepth 100000 in
theorem c_X6_province (l : Launch) (E : pv_E) (a : Nat → Nat) (x1 : Int32) (x2 : Int32) (w0 : pv_XT) (F : Int32 × pv_XT) (hq : m_X6_province x1 x2 w0 = some F) : pv_RW l E yX6_province wsX6_province r_X6_province (pv_wX E a w0) [.ref (a 0), .int x1, .int x2] (some (.int F.1)) (pv_wX E a F.2) := by
  intro sz
  refine pv_mk (by decide) rfl (Nat.le_of_ble_eq_true rfl) ?_
  intro p e s m args below meth c A hx hb hr hml hown hts hlk hAe hP hD0 hA hE hS ls hl
  have hown : s.vm.findClass RX6 = some m.cls := hown
  have hK := hE.1
  have hD : ∀ w : pv_XT, va_D A (pv_wX E a w) := fun w => pv_Dm (ws := pv_wX E a w0) (ws' := pv_wX E a w) rfl hD0
  have hP : va_P E.1 vwCl (pv_wX E a w0) s.heap := hP
  have lc_51 : (Cond.constant RX6 51 (-1000000001)).before args s = true := hts _ (by decide +kernel)
  have fl_10 : (Cond.fieldLink RX6 10 "ProvinceCards" "table" "LProvinceCards$Table;").before args s = true := hts _ (by decide +kernel)
  have fl_66 : (Cond.fieldLink RX6 66 "ProvinceCards$Table" "owner" "[I").before args s = true := hts _ (by decide +kernel)
  have i_RX6 : ∀ w ∈ wsX60, w ∈ wsX6_province := by decide +kernel
  have i_RX4 : ∀ w ∈ wsX40, w ∈ wsX6_province := by decide +kernel
  have hl : lv_has ls 4 [(0, .ref (a 0)), (1, .int x1), (2, .int x2)] := hl
  have B_14 : ∀  (w : pv_XT) (H : Heap) (locs : List Loc) (ls : Array Slot), va_P E.1 vwCl (pv_wX E a w) H → va_S A s.heap H locs → lv_has ls 4 [(0, .ref (a 0))] → m_X6_province_14 w = some F → W p l e r_X6_province s m args below meth c H locs 0 0 (MQ below (pv_Rw E (pv_wX E a w0) sz (some (.int F.1)) ((fun w : pv_XT => pv_wX E a w) F.2)) args s 0 0 A) (F0 m 14 ls []) := by
    intro w H locs ls hP hS hl hq
    refine lv_aload_n (pc := 14) hx hb dX6_province_14 rfl (lv_at hl 0 rfl) ?_
    refine lv_ldc (pc := 15) hx hb hown lc_51 dX6_province_15 ?_
    obtain ⟨u_2, hu_2, hq⟩ := pv_bind hq
    refine pv_vRWf (pc := 17) (rest := []) (st1 := [.int u_2.1]) (ws := pv_wX E a w) [.int (-1000000001)] ⟨hx, hb, hml, hown, hts⟩ hE hA hS hP (hD w) (c_X6_finding l E a (-1000000001) w u_2 hu_2) (cwV 1 hts gX6_province_X6_finding rfl rfl rfl (by decide +kernel) ⟨(Nat.le_of_ble_eq_true rfl), (Nat.le_of_ble_eq_true rfl)⟩) (va_recv hK hP (ci := 4) (q0 := 0) rfl rfl) rfl hl.1 rfl rfl (Nat.le_of_ble_eq_true rfl) dX6_province_17 ⟨Nat.zero_le _, Nat.zero_le _⟩ (fun H locs hP hS => ?_)
    have hP : va_P E.1 vwCl (pv_wX E a u_2.2) H := hP
    exact pv_riRW (w := fun w : pv_XT => pv_wX E a w) hx hb hr hlk hAe hS hP (Option.some.inj hq) dX6_province_20
  suffices M0 : ∀ (H : Heap) (locs : List Loc), va_P E.1 vwCl (pv_wX E a w0) H → va_S A s.heap H locs → W p l e r_X6_province s m args below meth c H locs 0 0 (MQ below (pv_Rw E (pv_wX E a w0) sz (some (.int F.1)) ((fun w : pv_XT => pv_wX E a w) F.2)) args s 0 0 A) (F0 m 0 ls []) from M0 s.heap [] hP hS
  intro H locs hP hS
  refine lv_iload_n (pc := 0) hx hb dX6_province_0 rfl (lv_at hl 1 rfl) ?_
  refine pv_sRO (pc := 1) (rest := []) (st1 := [.int (m_X6_isProvince x1)]) (ws := pv_wX E a w0) [.int x1] ⟨hx, hb, hml, hown, hts⟩ hE hA hS hP (hD w0) (c_X6_isProvince l E x1) (va_cwS 1 hts gX6_province_X6_isProvince rfl rfl rfl (by decide +kernel) ⟨(Nat.le_of_ble_eq_true rfl), (Nat.le_of_ble_eq_true rfl)⟩) [] rfl rfl rfl hl.1 rfl rfl (Nat.le_of_ble_eq_true rfl) dX6_province_1 ⟨Nat.zero_le _, Nat.zero_le _⟩ (fun locs hS => ?_)
  refine lv_if_eq (pc := 4) (tgt := 14) hx hb dX6_province_4 (by decide) (fun c_1 => ?_) (fun c_1 => ?_)
  · have hq := pv_pos c_1 hq
    exact B_14 w0 H locs ls hP hS (lv_sub hl [0] rfl) hq
  · have hq := pv_neg c_1 hq
    refine lv_iload_n (pc := 7) hx hb dX6_province_7 rfl (lv_at hl 2 rfl) ?_
    refine pv_sRO (pc := 8) (rest := []) (st1 := [.int (m_X6_isStateOrNobody x2)]) (ws := pv_wX E a w0) [.int x2] ⟨hx, hb, hml, hown, hts⟩ hE hA hS hP (hD w0) (c_X6_isStateOrNobody l E x2) (va_cwS 1 hts gX6_province_X6_isStateOrNobody rfl rfl rfl (by decide +kernel) ⟨(Nat.le_of_ble_eq_true rfl), (Nat.le_of_ble_eq_true rfl)⟩) [] rfl rfl rfl hl.1 rfl rfl (Nat.le_of_ble_eq_true rfl) dX6_province_8 ⟨Nat.zero_le _, Nat.zero_le _⟩ (fun locs hS => ?_)
    refine lv_if_ne (pc := 11) (tgt := 21) hx hb dX6_province_11 (by decide) (fun c_3 => ?_) (fun c_3 => ?_)
    · have hq := pv_neg c_3 hq
      refine lv_aload_n (pc := 21) hx hb dX6_province_21 rfl (lv_at hl 0 rfl) ?_
      refine va_get (pc := 22) (D := E.1) (ci := 4) (v := .ref (a 1)) (C := RX6) (T := TX6) (N := 8) hx hb hts i_RX6 hown hK hP 0 rfl rfl 0 (Nat.le_of_ble_eq_true rfl) fl_10 (fun _ h9 => h9) rfl dX6_province_22 ?_
      refine va_get (pc := 25) (D := E.1) (ci := 2) (v := .ref (a 2)) (C := RX4) (T := TX4) (N := 8) hx hb hts i_RX4 hown hK hP 1 rfl rfl 3 (Nat.le_of_ble_eq_true rfl) fl_66 (fun _ h9 => h9) rfl dX6_province_25 ?_
      refine lv_iload_n (pc := 28) hx hb dX6_province_28 rfl (lv_at hl 1 rfl) ?_
      obtain ⟨h_4, hq⟩ := pv_gd_some hq
      refine va_iald (pc := 29) (D := E.1) hx hb hK hP 2 0 rfl rfl h_4 dX6_province_29 ?_
      refine lv_istore_n (pc := 30) (lv' := [(3, .int (w0.1.2.2.2.1 x1.toNatClampNeg)), (0, .ref (a 0)), (1, .int x1), (2, .int x2)]) hx hb dX6_province_30 rfl hl (Nat.le_of_ble_eq_true rfl) rfl (fun ls hl => ?_)
      refine lv_aload_n (pc := 31) hx hb dX6_province_31 rfl (lv_at hl 1 rfl) ?_
      refine va_get (pc := 32) (D := E.1) (ci := 4) (v := .ref (a 1)) (C := RX6) (T := TX6) (N := 8) hx hb hts i_RX6 hown hK hP 0 rfl rfl 0 (Nat.le_of_ble_eq_true rfl) fl_10 (fun _ h9 => h9) rfl dX6_province_32 ?_
      refine va_get (pc := 35) (D := E.1) (ci := 2) (v := .ref (a 2)) (C := RX4) (T := TX4) (N := 8) hx hb hts i_RX4 hown hK hP 1 rfl rfl 3 (Nat.le_of_ble_eq_true rfl) fl_66 (fun _ h9 => h9) rfl dX6_province_35 ?_
      refine lv_iload_n (pc := 38) hx hb dX6_province_38 rfl (lv_at hl 2 rfl) ?_
      refine lv_iload_n (pc := 39) hx hb dX6_province_39 rfl (lv_at hl 3 rfl) ?_
      obtain ⟨h_5, hq⟩ := pv_gd_some hq
      refine va_iast (pc := 40) (D := E.1) hx hb hK hP (hD w0) hS 2 0 rfl rfl h_5 dX6_province_40 (fun H locs hP _ hS => ?_)
      have hP : va_P E.1 vwCl (pv_wX E a ((w0.1.1, w0.1.2.1, w0.1.2.2.1, (upd w0.1.2.2.2.1 x1.toNatClampNeg x2), w0.1.2.2.2.2.1, w0.1.2.2.2.2.2.1, w0.1.2.2.2.2.2.2.1, w0.1.2.2.2.2.2.2.2), w0.2.1, w0.2.2.1, w0.2.2.2.1, w0.2.2.2.2.1, w0.2.2.2.2.2.1, w0.2.2.2.2.2.2.1, w0.2.2.2.2.2.2.2)) H := hP
      refine lv_iload_n (pc := 41) hx hb dX6_province_41 rfl (lv_at hl 0 rfl) ?_
      exact pv_riRW (w := fun w : pv_XT => pv_wX E a w) hx hb hr hlk hAe hS hP (Option.some.inj hq) dX6_province_42
    · have hq := pv_pos c_3 hq
      exact B_14 w0 H locs ls hP hS (lv_sub hl [0] rfl) hq
def m_X6_whose (x1 : Int32) (w : pv_XT) : Option (Int32 × pv_XT) :=
  if (m_X6_isProvince x1) = 0 then (Option.bind (m_X6_finding (-1000000001) w) fun u_3 => (some (u_3.1, u_3.2))) else (pv_gd x1 8 (some ((w.1.2.2.2.1 x1.toNatClampNeg), w)))
abbrev r_X6_whose : Room := { frames := 1, cells := 0, slots := 0, locals := 22 }
set_option maxHeartbeats 4000000 in
set_option maxRecDepth 100000 in
theorem c_X6_whose (l : Launch) (E : pv_E) (a : Nat → Nat) (x1 : Int32) (w0 : pv_XT) (F : Int32 × pv_XT) (hq : m_X6_whose x1 w0 = some F) : pv_RW l E yX6_whose wsX6_whose r_X6_whose (pv_wX E a w0) [.ref (a 0), .int x1] (some (.int F.1)) (pv_wX E a F.2) := by
  intro sz
  refine pv_mk (by decide) rfl (Nat.le_of_ble_eq_true rfl) ?_
  intro p e s m args below meth c A hx hb hr hml hown hts hlk hAe hP hD0 hA hE hS ls hl
  have hown : s.vm.findClass RX6 = some m.cls := hown
  have hK := hE.1
  have hD : ∀ w : pv_XT, va_D A (pv_wX E a w) := fun w => pv_Dm (ws := pv_wX E a w0) (ws' := pv_wX E a w) rfl hD0
  have hP : va_P E.1 vwCl (pv_wX E a w0) s.heap := hP
  have fl_10 : (Cond.fieldLink RX6 10 "ProvinceCards" "table" "LProvinceCards$Table;").before args s = true := hts _ (by decide +kernel)
  have fl_66 : (Cond.fieldLink RX6 66 "ProvinceCards$Table" "owner" "[I").before args s = true := hts _ (by decide +kernel)
  have lc_51 : (Cond.constant RX6 51 (-1000000001)).before args s = true := hts _ (by decide +kernel)
  have i_RX6 : ∀ w ∈ wsX60, w ∈ wsX6_whose := by decide +kernel
  have i_RX4 : ∀ w ∈ wsX40, w ∈ wsX6_whose := by decide +kernel
  have hl : lv_has ls 2 [(0, .ref (a 0)), (1, .int x1)] := hl
  suffices M0 : ∀ (H : Heap) (locs : List Loc), va_P E.1 vwCl (pv_wX E a w0) H → va_S A s.heap H locs → W p l e r_X6_whose s m args below meth c H locs 0 0 (MQ below (pv_Rw E (pv_wX E a w0) sz (some (.int F.1)) ((fun w : pv_XT => pv_wX E a w) F.2)) args s 0 0 A) (F0 m 0 ls []) from M0 s.heap [] hP hS
  intro H locs hP hS
  refine lv_iload_n (pc := 0) hx hb dX6_whose_0 rfl (lv_at hl 1 rfl) ?_
  refine pv_sRO (pc := 1) (rest := []) (st1 := [.int (m_X6_isProvince x1)]) (ws := pv_wX E a w0) [.int x1] ⟨hx, hb, hml, hown, hts⟩ hE hA hS hP (hD w0) (c_X6_isProvince l E x1) (va_cwS 1 hts gX6_whose_X6_isProvince rfl rfl rfl (by decide +kernel) ⟨(Nat.le_of_ble_eq_true rfl), (Nat.le_of_ble_eq_true rfl)⟩) [] rfl rfl rfl hl.1 rfl rfl (Nat.le_of_ble_eq_true rfl) dX6_whose_1 ⟨Nat.zero_le _, Nat.zero_le _⟩ (fun locs hS => ?_)
  refine lv_if_ne (pc := 4) (tgt := 14) hx hb dX6_whose_4 (by decide) (fun c_1 => ?_) (fun c_1 => ?_)
  · have hq := pv_neg c_1 hq
    refine lv_aload_n (pc := 14) hx hb dX6_whose_14 rfl (lv_at hl 0 rfl) ?_
    refine va_get (pc := 15) (D := E.1) (ci := 4) (v := .ref (a 1)) (C := RX6) (T := TX6) (N := 8) hx hb hts i_RX6 hown hK hP 0 rfl rfl 0 (Nat.le_of_ble_eq_true rfl) fl_10 (fun _ h9 => h9) rfl dX6_whose_15 ?_
    refine va_get (pc := 18) (D := E.1) (ci := 2) (v := .ref (a 2)) (C := RX4) (T := TX4) (N := 8) hx hb hts i_RX4 hown hK hP 1 rfl rfl 3 (Nat.le_of_ble_eq_true rfl) fl_66 (fun _ h9 => h9) rfl dX6_whose_18 ?_
    refine lv_iload_n (pc := 21) hx hb dX6_whose_21 rfl (lv_at hl 1 rfl) ?_
    obtain ⟨h_2, hq⟩ := pv_gd_some hq
    refine va_iald (pc := 22) (D := E.1) hx hb hK hP 2 0 rfl rfl h_2 dX6_whose_22 ?_
    exact pv_riRW (w := fun w : pv_XT => pv_wX E a w) hx hb hr hlk hAe hS hP (Option.some.inj hq) dX6_whose_23
  · have hq := pv_pos c_1 hq
    refine lv_aload_n (pc := 7) hx hb dX6_whose_7 rfl (lv_at hl 0 rfl) ?_
    refine lv_ldc (pc := 8) hx hb hown lc_51 dX6_whose_8 ?_
    obtain ⟨u_3, hu_3, hq⟩ := pv_bind hq
    refine pv_vRWf (pc := 10) (rest := []) (st1 := [.int u_3.1]) (ws := pv_wX E a w0) [.int (-1000000001)] ⟨hx, hb, hml, hown, hts⟩ hE hA hS hP (hD w0) (c_X6_finding l E a (-1000000001) w0 u_3 hu_3) (cwV 1 hts gX6_whose_X6_finding rfl rfl rfl (by decide +kernel) ⟨(Nat.le_of_ble_eq_true rfl), (Nat.le_of_ble_eq_true rfl)⟩) (va_recv hK hP (ci := 4) (q0 := 0) rfl rfl) rfl hl.1 rfl rfl (Nat.le_of_ble_eq_true rfl) dX6_whose_10 ⟨Nat.zero_le _, Nat.zero_le _⟩ (fun H locs hP hS => ?_)
    have hP : va_P E.1 vwCl (pv_wX E a u_3.2) H := hP
    exact pv_riRW (w := fun w : pv_XT => pv_wX E a w) hx hb hr hlk hAe hS hP (Option.some.inj hq) dX6_whose_13
def m_X6_treasury_17  (w : pv_XT) : Option (Int32 × pv_XT) :=
  Option.bind (m_X6_finding (-1000000001) w) fun u_2 => (some (u_2.1, u_2.2))
def m_X6_treasury (x1 : Int32) (x2 : Int32) (w : pv_XT) : Option (Int32 × pv_XT) :=
  if (m_X6_isState x1) = 0 then (m_X6_treasury_17 w) else (if (m_X6_isWithin x2 0 99999) = 0 then (m_X6_treasury_17 w) else (pv_gd x1 2 (pv_gd x1 2 (some ((w.1.2.2.2.2.1 x1.toNatClampNeg), ((w.1.1, w.1.2.1, w.1.2.2.1, w.1.2.2.2.1, (upd w.1.2.2.2.2.1 x1.toNatClampNeg x2), w.1.2.2.2.2.2.1, w.1.2.2.2.2.2.2.1, w.1.2.2.2.2.2.2.2), w.2.1, w.2.2.1, w.2.2.2.1, w.2.2.2.2.1, w.2.2.2.2.2.1, w.2.2.2.2.2.2.1, w.2.2.2.2.2.2.2))))))
abbrev r_X6_treasury : Room := { frames := 1, cells := 0, slots := 0, locals := 22 }
set_option maxHeartbeats 4000000 in
set_option maxRecDepth 100000 in
theorem c_X6_treasury (l : Launch) (E : pv_E) (a : Nat → Nat) (x1 : Int32) (x2 : Int32) (w0 : pv_XT) (F : Int32 × pv_XT) (hq : m_X6_treasury x1 x2 w0 = some F) : pv_RW l E yX6_treasury wsX6_treasury r_X6_treasury (pv_wX E a w0) [.ref (a 0), .int x1, .int x2] (some (.int F.1)) (pv_wX E a F.2) := by
  intro sz
  refine pv_mk (by decide) rfl (Nat.le_of_ble_eq_true rfl) ?_
  intro p e s m args below meth c A hx hb hr hml hown hts hlk hAe hP hD0 hA hE hS ls hl
  have hown : s.vm.findClass RX6 = some m.cls := hown
  have hK := hE.1
  have hD : ∀ w : pv_XT, va_D A (pv_wX E a w) := fun w => pv_Dm (ws := pv_wX E a w0) (ws' := pv_wX E a w) rfl hD0
  have hP : va_P E.1 vwCl (pv_wX E a w0) s.heap := hP
  have lc_51 : (Cond.constant RX6 51 (-1000000001)).before args s = true := hts _ (by decide +kernel)
  have lc_72 : (Cond.constant RX6 72 (99999)).before args s = true := hts _ (by decide +kernel)
  have fl_10 : (Cond.fieldLink RX6 10 "ProvinceCards" "table" "LProvinceCards$Table;").before args s = true := hts _ (by decide +kernel)
  have fl_77 : (Cond.fieldLink RX6 77 "ProvinceCards$Table" "purse" "[I").before args s = true := hts _ (by decide +kernel)
  have i_RX6 : ∀ w ∈ wsX60, w ∈ wsX6_treasury := by decide +kernel
  have i_RX4 : ∀ w ∈ wsX40, w ∈ wsX6_treasury := by decide +kernel
  have hl : lv_has ls 4 [(0, .ref (a 0)), (1, .int x1), (2, .int x2)] := hl
  have B_17 : ∀  (w : pv_XT) (H : Heap) (locs : List Loc) (ls : Array Slot), va_P E.1 vwCl (pv_wX E a w) H → va_S A s.heap H locs → lv_has ls 4 [(0, .ref (a 0))] → m_X6_treasury_17 w = some F → W p l e r_X6_treasury s m args below meth c H locs 0 0 (MQ below (pv_Rw E (pv_wX E a w0) sz (some (.int F.1)) ((fun w : pv_XT => pv_wX E a w) F.2)) args s 0 0 A) (F0 m 17 ls []) := by
    intro w H locs ls hP hS hl hq
    refine lv_aload_n (pc := 17) hx hb dX6_treasury_17 rfl (lv_at hl 0 rfl) ?_
    refine lv_ldc (pc := 18) hx hb hown lc_51 dX6_treasury_18 ?_
    obtain ⟨u_2, hu_2, hq⟩ := pv_bind hq
    refine pv_vRWf (pc := 20) (rest := []) (st1 := [.int u_2.1]) (ws := pv_wX E a w) [.int (-1000000001)] ⟨hx, hb, hml, hown, hts⟩ hE hA hS hP (hD w) (c_X6_finding l E a (-1000000001) w u_2 hu_2) (cwV 1 hts gX6_treasury_X6_finding rfl rfl rfl (by decide +kernel) ⟨(Nat.le_of_ble_eq_true rfl), (Nat.le_of_ble_eq_true rfl)⟩) (va_recv hK hP (ci := 4) (q0 := 0) rfl rfl) rfl hl.1 rfl rfl (Nat.le_of_ble_eq_true rfl) dX6_treasury_20 ⟨Nat.zero_le _, Nat.zero_le _⟩ (fun H locs hP hS => ?_)
    have hP : va_P E.1 vwCl (pv_wX E a u_2.2) H := hP
    exact pv_riRW (w := fun w : pv_XT => pv_wX E a w) hx hb hr hlk hAe hS hP (Option.some.inj hq) dX6_treasury_23
  suffices M0 : ∀ (H : Heap) (locs : List Loc), va_P E.1 vwCl (pv_wX E a w0) H → va_S A s.heap H locs → W p l e r_X6_treasury s m args below meth c H locs 0 0 (MQ below (pv_Rw E (pv_wX E a w0) sz (some (.int F.1)) ((fun w : pv_XT => pv_wX E a w) F.2)) args s 0 0 A) (F0 m 0 ls []) from M0 s.heap [] hP hS
  intro H locs hP hS
  refine lv_iload_n (pc := 0) hx hb dX6_treasury_0 rfl (lv_at hl 1 rfl) ?_
  refine pv_sRO (pc := 1) (rest := []) (st1 := [.int (m_X6_isState x1)]) (ws := pv_wX E a w0) [.int x1] ⟨hx, hb, hml, hown, hts⟩ hE hA hS hP (hD w0) (c_X6_isState l E x1) (va_cwS 1 hts gX6_treasury_X6_isState rfl rfl rfl (by decide +kernel) ⟨(Nat.le_of_ble_eq_true rfl), (Nat.le_of_ble_eq_true rfl)⟩) [] rfl rfl rfl hl.1 rfl rfl (Nat.le_of_ble_eq_true rfl) dX6_treasury_1 ⟨Nat.zero_le _, Nat.zero_le _⟩ (fun locs hS => ?_)
  refine lv_if_eq (pc := 4) (tgt := 17) hx hb dX6_treasury_4 (by decide) (fun c_1 => ?_) (fun c_1 => ?_)
  · have hq := pv_pos c_1 hq
    exact B_17 w0 H locs ls hP hS (lv_sub hl [0] rfl) hq
  · have hq := pv_neg c_1 hq
    refine lv_iload_n (pc := 7) hx hb dX6_treasury_7 rfl (lv_at hl 2 rfl) ?_
    refine lv_iconst (pc := 8) (v := 0) hx hb dX6_treasury_8 (by decide) ?_
    refine lv_ldc (pc := 9) hx hb hown lc_72 dX6_treasury_9 ?_
    refine pv_sRO (pc := 11) (rest := []) (st1 := [.int (m_X6_isWithin x2 0 99999)]) (ws := pv_wX E a w0) [.int x2, .int 0, .int 99999] ⟨hx, hb, hml, hown, hts⟩ hE hA hS hP (hD w0) (c_X6_isWithin l E x2 0 99999) (va_cwS 3 hts gX6_treasury_X6_isWithin rfl rfl rfl (by decide +kernel) ⟨(Nat.le_of_ble_eq_true rfl), (Nat.le_of_ble_eq_true rfl)⟩) [] rfl rfl rfl hl.1 rfl rfl (Nat.le_of_ble_eq_true rfl) dX6_treasury_11 ⟨Nat.zero_le _, Nat.zero_le _⟩ (fun locs hS => ?_)
    refine lv_if_ne (pc := 14) (tgt := 24) hx hb dX6_treasury_14 (by decide) (fun c_3 => ?_) (fun c_3 => ?_)
    · have hq := pv_neg c_3 hq
      refine lv_aload_n (pc := 24) hx hb dX6_treasury_24 rfl (lv_at hl 0 rfl) ?_
      refine va_get (pc := 25) (D := E.1) (ci := 4) (v := .ref (a 1)) (C := RX6) (T := TX6) (N := 8) hx hb hts i_RX6 hown hK hP 0 rfl rfl 0 (Nat.le_of_ble_eq_true rfl) fl_10 (fun _ h9 => h9) rfl dX6_treasury_25 ?_
      refine va_get (pc := 28) (D := E.1) (ci := 2) (v := .ref (a 3)) (C := RX4) (T := TX4) (N := 8) hx hb hts i_RX4 hown hK hP 1 rfl rfl 4 (Nat.le_of_ble_eq_true rfl) fl_77 (fun _ h9 => h9) rfl dX6_treasury_28 ?_
      refine lv_iload_n (pc := 31) hx hb dX6_treasury_31 rfl (lv_at hl 1 rfl) ?_
      obtain ⟨h_4, hq⟩ := pv_gd_some hq
      refine va_iald (pc := 32) (D := E.1) hx hb hK hP 3 0 rfl rfl h_4 dX6_treasury_32 ?_
      refine lv_istore_n (pc := 33) (lv' := [(3, .int (w0.1.2.2.2.2.1 x1.toNatClampNeg)), (0, .ref (a 0)), (1, .int x1), (2, .int x2)]) hx hb dX6_treasury_33 rfl hl (Nat.le_of_ble_eq_true rfl) rfl (fun ls hl => ?_)
      refine lv_aload_n (pc := 34) hx hb dX6_treasury_34 rfl (lv_at hl 1 rfl) ?_
      refine va_get (pc := 35) (D := E.1) (ci := 4) (v := .ref (a 1)) (C := RX6) (T := TX6) (N := 8) hx hb hts i_RX6 hown hK hP 0 rfl rfl 0 (Nat.le_of_ble_eq_true rfl) fl_10 (fun _ h9 => h9) rfl dX6_treasury_35 ?_
      refine va_get (pc := 38) (D := E.1) (ci := 2) (v := .ref (a 3)) (C := RX4) (T := TX4) (N := 8) hx hb hts i_RX4 hown hK hP 1 rfl rfl 4 (Nat.le_of_ble_eq_true rfl) fl_77 (fun _ h9 => h9) rfl dX6_treasury_38 ?_
      refine lv_iload_n (pc := 41) hx hb dX6_treasury_41 rfl (lv_at hl 2 rfl) ?_
      refine lv_iload_n (pc := 42) hx hb dX6_treasury_42 rfl (lv_at hl 3 rfl) ?_
      obtain ⟨h_5, hq⟩ := pv_gd_some hq
      refine va_iast (pc := 43) (D := E.1) hx hb hK hP (hD w0) hS 3 0 rfl rfl h_5 dX6_treasury_43 (fun H locs hP _ hS => ?_)
      have hP : va_P E.1 vwCl (pv_wX E a ((w0.1.1, w0.1.2.1, w0.1.2.2.1, w0.1.2.2.2.1, (upd w0.1.2.2.2.2.1 x1.toNatClampNeg x2), w0.1.2.2.2.2.2.1, w0.1.2.2.2.2.2.2.1, w0.1.2.2.2.2.2.2.2), w0.2.1, w0.2.2.1, w0.2.2.2.1, w0.2.2.2.2.1, w0.2.2.2.2.2.1, w0.2.2.2.2.2.2.1, w0.2.2.2.2.2.2.2)) H := hP
      refine lv_iload_n (pc := 44) hx hb dX6_treasury_44 rfl (lv_at hl 0 rfl) ?_
      exact pv_riRW (w := fun w : pv_XT => pv_wX E a w) hx hb hr hlk hAe hS hP (Option.some.inj hq) dX6_treasury_45
    · have hq := pv_pos c_3 hq
      exact B_17 w0 H locs ls hP hS (lv_sub hl [0] rfl) hq
def m_X6_now (x1 : Int32) (w : pv_XT) : Option (Int32 × pv_XT) :=
  if x1 = 0 then (some (w.1.1, w)) else if x1 = 1 then (some (w.1.2.1, w)) else if x1 = 2 then (some ((m_X4_trump w.1), w)) else if x1 = 3 then (some ((m_X4_stake w.1), w)) else if x1 = 4 then (some ((w.1.2.2.2.2.2.1 0), w)) else if x1 = 5 then (some ((w.1.2.2.2.2.2.1 1), w)) else if x1 = 6 then (some ((w.1.2.2.2.2.1 0), w)) else if x1 = 7 then (some ((w.1.2.2.2.2.1 1), w)) else (Option.bind (m_X6_finding (-1000000001) w) fun u_9 => (some (u_9.1, u_9.2)))
abbrev r_X6_now : Room := { frames := 1, cells := 0, slots := 0, locals := 22 }
set_option maxHeartbeats 4000000 in
set_option maxRecDepth 100000 in
theorem c_X6_now (l : Launch) (E : pv_E) (a : Nat → Nat) (x1 : Int32) (w0 : pv_XT) (F : Int32 × pv_XT) (hq : m_X6_now x1 w0 = some F) : pv_RW l E yX6_now wsX6_now r_X6_now (pv_wX E a w0) [.ref (a 0), .int x1] (some (.int F.1)) (pv_wX E a F.2) := by
  intro sz
  refine pv_mk (by decide) rfl (Nat.le_of_ble_eq_true rfl) ?_
  intro p e s m args below meth c A hx hb hr hml hown hts hlk hAe hP hD0 hA hE hS ls hl
  have hown : s.vm.findClass RX6 = some m.cls := hown
  have hK := hE.1
  have hD : ∀ w : pv_XT, va_D A (pv_wX E a w) := fun w => pv_Dm (ws := pv_wX E a w0) (ws' := pv_wX E a w) rfl hD0
  have hP : va_P E.1 vwCl (pv_wX E a w0) s.heap := hP
  have fl_10 : (Cond.fieldLink RX6 10 "ProvinceCards" "table" "LProvinceCards$Table;").before args s = true := hts _ (by decide +kernel)
  have fl_80 : (Cond.fieldLink RX6 80 "ProvinceCards$Table" "month" "I").before args s = true := hts _ (by decide +kernel)
  have fl_56 : (Cond.fieldLink RX6 56 "ProvinceCards$Table" "mixing" "I").before args s = true := hts _ (by decide +kernel)
  have fl_90 : (Cond.fieldLink RX6 90 "ProvinceCards$Table" "sent" "[I").before args s = true := hts _ (by decide +kernel)
  have fl_77 : (Cond.fieldLink RX6 77 "ProvinceCards$Table" "purse" "[I").before args s = true := hts _ (by decide +kernel)
  have lc_51 : (Cond.constant RX6 51 (-1000000001)).before args s = true := hts _ (by decide +kernel)
  have i_RX6 : ∀ w ∈ wsX60, w ∈ wsX6_now := by decide +kernel
  have i_RX4 : ∀ w ∈ wsX40, w ∈ wsX6_now := by decide +kernel
  have hl : lv_has ls 2 [(0, .ref (a 0)), (1, .int x1)] := hl
  suffices M0 : ∀ (H : Heap) (locs : List Loc), va_P E.1 vwCl (pv_wX E a w0) H → va_S A s.heap H locs → W p l e r_X6_now s m args below meth c H locs 0 0 (MQ below (pv_Rw E (pv_wX E a w0) sz (some (.int F.1)) ((fun w : pv_XT => pv_wX E a w) F.2)) args s 0 0 A) (F0 m 0 ls []) from M0 s.heap [] hP hS
  intro H locs hP hS
  refine lv_iload_n (pc := 0) hx hb dX6_now_0 rfl (lv_at hl 1 rfl) ?_
  by_cases c_1 : x1 = 0
  · have hq := pv_pos c_1 hq
    refine lv_tableIn (pc := 1) (tgt := 48) (off := 47) hx hb dX6_now_1 (by rw [c_1]; decide) (by rw [c_1]; decide) (by rw [c_1]; rfl) (by decide) ?_
    refine lv_aload_n (pc := 48) hx hb dX6_now_48 rfl (lv_at hl 0 rfl) ?_
    refine va_get (pc := 49) (D := E.1) (ci := 4) (v := .ref (a 1)) (C := RX6) (T := TX6) (N := 8) hx hb hts i_RX6 hown hK hP 0 rfl rfl 0 (Nat.le_of_ble_eq_true rfl) fl_10 (fun _ h9 => h9) rfl dX6_now_49 ?_
    refine va_get (pc := 52) (D := E.1) (ci := 2) (v := .int w0.1.1) (C := RX4) (T := TX4) (N := 8) hx hb hts i_RX4 hown hK hP 1 rfl rfl 0 (Nat.le_of_ble_eq_true rfl) fl_80 (fun _ h9 => h9) rfl dX6_now_52 ?_
    exact pv_riRW (w := fun w : pv_XT => pv_wX E a w) hx hb hr hlk hAe hS hP (Option.some.inj hq) dX6_now_55
  have hq := pv_neg c_1 hq
  by_cases c_2 : x1 = 1
  · have hq := pv_pos c_2 hq
    refine lv_tableIn (pc := 1) (tgt := 56) (off := 55) hx hb dX6_now_1 (by rw [c_2]; decide) (by rw [c_2]; decide) (by rw [c_2]; rfl) (by decide) ?_
    refine lv_aload_n (pc := 56) hx hb dX6_now_56 rfl (lv_at hl 0 rfl) ?_
    refine va_get (pc := 57) (D := E.1) (ci := 4) (v := .ref (a 1)) (C := RX6) (T := TX6) (N := 8) hx hb hts i_RX6 hown hK hP 0 rfl rfl 0 (Nat.le_of_ble_eq_true rfl) fl_10 (fun _ h9 => h9) rfl dX6_now_57 ?_
    refine va_get (pc := 60) (D := E.1) (ci := 2) (v := .int w0.1.2.1) (C := RX4) (T := TX4) (N := 8) hx hb hts i_RX4 hown hK hP 1 rfl rfl 1 (Nat.le_of_ble_eq_true rfl) fl_56 (fun _ h9 => h9) rfl dX6_now_60 ?_
    exact pv_riRW (w := fun w : pv_XT => pv_wX E a w) hx hb hr hlk hAe hS hP (Option.some.inj hq) dX6_now_63
  have hq := pv_neg c_2 hq
  by_cases c_3 : x1 = 2
  · have hq := pv_pos c_3 hq
    refine lv_tableIn (pc := 1) (tgt := 64) (off := 63) hx hb dX6_now_1 (by rw [c_3]; decide) (by rw [c_3]; decide) (by rw [c_3]; rfl) (by decide) ?_
    refine lv_aload_n (pc := 64) hx hb dX6_now_64 rfl (lv_at hl 0 rfl) ?_
    refine va_get (pc := 65) (D := E.1) (ci := 4) (v := .ref (a 1)) (C := RX6) (T := TX6) (N := 8) hx hb hts i_RX6 hown hK hP 0 rfl rfl 0 (Nat.le_of_ble_eq_true rfl) fl_10 (fun _ h9 => h9) rfl dX6_now_65 ?_
    refine pv_vRO (pc := 68) (rest := []) (st1 := [.int (m_X4_trump w0.1)]) (ws := pv_wX E a w0) [] ⟨hx, hb, hml, hown, hts⟩ hE hA hS hP (hD w0) (c_X4_trump l E (a 1) (a 2) (a 3) (a 4) (a 5) (a 6) w0.1) (cwV 0 hts gX6_now_X4_trump rfl rfl rfl (by decide +kernel) ⟨(Nat.le_of_ble_eq_true rfl), (Nat.le_of_ble_eq_true rfl)⟩) (va_recv hK hP (ci := 2) (q0 := 1) rfl rfl) [1, 2, 3, 4, 5, 6] rfl rfl rfl hl.1 rfl rfl (Nat.le_of_ble_eq_true rfl) dX6_now_68 ⟨Nat.zero_le _, Nat.zero_le _⟩ (fun locs hS => ?_)
    exact pv_riRW (w := fun w : pv_XT => pv_wX E a w) hx hb hr hlk hAe hS hP (Option.some.inj hq) dX6_now_71
  have hq := pv_neg c_3 hq
  by_cases c_4 : x1 = 3
  · have hq := pv_pos c_4 hq
    refine lv_tableIn (pc := 1) (tgt := 72) (off := 71) hx hb dX6_now_1 (by rw [c_4]; decide) (by rw [c_4]; decide) (by rw [c_4]; rfl) (by decide) ?_
    refine lv_aload_n (pc := 72) hx hb dX6_now_72 rfl (lv_at hl 0 rfl) ?_
    refine va_get (pc := 73) (D := E.1) (ci := 4) (v := .ref (a 1)) (C := RX6) (T := TX6) (N := 8) hx hb hts i_RX6 hown hK hP 0 rfl rfl 0 (Nat.le_of_ble_eq_true rfl) fl_10 (fun _ h9 => h9) rfl dX6_now_73 ?_
    refine pv_vRO (pc := 76) (rest := []) (st1 := [.int (m_X4_stake w0.1)]) (ws := pv_wX E a w0) [] ⟨hx, hb, hml, hown, hts⟩ hE hA hS hP (hD w0) (c_X4_stake l E (a 1) (a 2) (a 3) (a 4) (a 5) (a 6) w0.1) (cwV 0 hts gX6_now_X4_stake rfl rfl rfl (by decide +kernel) ⟨(Nat.le_of_ble_eq_true rfl), (Nat.le_of_ble_eq_true rfl)⟩) (va_recv hK hP (ci := 2) (q0 := 1) rfl rfl) [1, 2, 3, 4, 5, 6] rfl rfl rfl hl.1 rfl rfl (Nat.le_of_ble_eq_true rfl) dX6_now_76 ⟨Nat.zero_le _, Nat.zero_le _⟩ (fun locs hS => ?_)
    exact pv_riRW (w := fun w : pv_XT => pv_wX E a w) hx hb hr hlk hAe hS hP (Option.some.inj hq) dX6_now_79
  have hq := pv_neg c_4 hq
  by_cases c_5 : x1 = 4
  · have hq := pv_pos c_5 hq
    refine lv_tableIn (pc := 1) (tgt := 80) (off := 79) hx hb dX6_now_1 (by rw [c_5]; decide) (by rw [c_5]; decide) (by rw [c_5]; rfl) (by decide) ?_
    refine lv_aload_n (pc := 80) hx hb dX6_now_80 rfl (lv_at hl 0 rfl) ?_
    refine va_get (pc := 81) (D := E.1) (ci := 4) (v := .ref (a 1)) (C := RX6) (T := TX6) (N := 8) hx hb hts i_RX6 hown hK hP 0 rfl rfl 0 (Nat.le_of_ble_eq_true rfl) fl_10 (fun _ h9 => h9) rfl dX6_now_81 ?_
    refine va_get (pc := 84) (D := E.1) (ci := 2) (v := .ref (a 4)) (C := RX4) (T := TX4) (N := 8) hx hb hts i_RX4 hown hK hP 1 rfl rfl 5 (Nat.le_of_ble_eq_true rfl) fl_90 (fun _ h9 => h9) rfl dX6_now_84 ?_
    refine lv_iconst (pc := 87) (v := 0) hx hb dX6_now_87 (by decide) ?_
    refine va_iald (pc := 88) (D := E.1) hx hb hK hP 4 0 rfl rfl (by decide : ¬ ((0 : Int32) < 0 ∨ 2 ≤ (0 : Int32).toNatClampNeg)) dX6_now_88 ?_
    refine W.eq (g2 := F0 m 89 ls [.int (w0.1.2.2.2.2.2.1 0)]) rfl ?_
    exact pv_riRW (w := fun w : pv_XT => pv_wX E a w) hx hb hr hlk hAe hS hP (Option.some.inj hq) dX6_now_89
  have hq := pv_neg c_5 hq
  by_cases c_6 : x1 = 5
  · have hq := pv_pos c_6 hq
    refine lv_tableIn (pc := 1) (tgt := 90) (off := 89) hx hb dX6_now_1 (by rw [c_6]; decide) (by rw [c_6]; decide) (by rw [c_6]; rfl) (by decide) ?_
    refine lv_aload_n (pc := 90) hx hb dX6_now_90 rfl (lv_at hl 0 rfl) ?_
    refine va_get (pc := 91) (D := E.1) (ci := 4) (v := .ref (a 1)) (C := RX6) (T := TX6) (N := 8) hx hb hts i_RX6 hown hK hP 0 rfl rfl 0 (Nat.le_of_ble_eq_true rfl) fl_10 (fun _ h9 => h9) rfl dX6_now_91 ?_
    refine va_get (pc := 94) (D := E.1) (ci := 2) (v := .ref (a 4)) (C := RX4) (T := TX4) (N := 8) hx hb hts i_RX4 hown hK hP 1 rfl rfl 5 (Nat.le_of_ble_eq_true rfl) fl_90 (fun _ h9 => h9) rfl dX6_now_94 ?_
    refine lv_iconst (pc := 97) (v := 1) hx hb dX6_now_97 (by decide) ?_
    refine va_iald (pc := 98) (D := E.1) hx hb hK hP 4 0 rfl rfl (by decide : ¬ ((1 : Int32) < 0 ∨ 2 ≤ (1 : Int32).toNatClampNeg)) dX6_now_98 ?_
    refine W.eq (g2 := F0 m 99 ls [.int (w0.1.2.2.2.2.2.1 1)]) rfl ?_
    exact pv_riRW (w := fun w : pv_XT => pv_wX E a w) hx hb hr hlk hAe hS hP (Option.some.inj hq) dX6_now_99
  have hq := pv_neg c_6 hq
  by_cases c_7 : x1 = 6
  · have hq := pv_pos c_7 hq
    refine lv_tableIn (pc := 1) (tgt := 100) (off := 99) hx hb dX6_now_1 (by rw [c_7]; decide) (by rw [c_7]; decide) (by rw [c_7]; rfl) (by decide) ?_
    refine lv_aload_n (pc := 100) hx hb dX6_now_100 rfl (lv_at hl 0 rfl) ?_
    refine va_get (pc := 101) (D := E.1) (ci := 4) (v := .ref (a 1)) (C := RX6) (T := TX6) (N := 8) hx hb hts i_RX6 hown hK hP 0 rfl rfl 0 (Nat.le_of_ble_eq_true rfl) fl_10 (fun _ h9 => h9) rfl dX6_now_101 ?_
    refine va_get (pc := 104) (D := E.1) (ci := 2) (v := .ref (a 3)) (C := RX4) (T := TX4) (N := 8) hx hb hts i_RX4 hown hK hP 1 rfl rfl 4 (Nat.le_of_ble_eq_true rfl) fl_77 (fun _ h9 => h9) rfl dX6_now_104 ?_
    refine lv_iconst (pc := 107) (v := 0) hx hb dX6_now_107 (by decide) ?_
    refine va_iald (pc := 108) (D := E.1) hx hb hK hP 3 0 rfl rfl (by decide : ¬ ((0 : Int32) < 0 ∨ 2 ≤ (0 : Int32).toNatClampNeg)) dX6_now_108 ?_
    refine W.eq (g2 := F0 m 109 ls [.int (w0.1.2.2.2.2.1 0)]) rfl ?_
    exact pv_riRW (w := fun w : pv_XT => pv_wX E a w) hx hb hr hlk hAe hS hP (Option.some.inj hq) dX6_now_109
  have hq := pv_neg c_7 hq
  by_cases c_8 : x1 = 7
  · have hq := pv_pos c_8 hq
    refine lv_tableIn (pc := 1) (tgt := 110) (off := 109) hx hb dX6_now_1 (by rw [c_8]; decide) (by rw [c_8]; decide) (by rw [c_8]; rfl) (by decide) ?_
    refine lv_aload_n (pc := 110) hx hb dX6_now_110 rfl (lv_at hl 0 rfl) ?_
    refine va_get (pc := 111) (D := E.1) (ci := 4) (v := .ref (a 1)) (C := RX6) (T := TX6) (N := 8) hx hb hts i_RX6 hown hK hP 0 rfl rfl 0 (Nat.le_of_ble_eq_true rfl) fl_10 (fun _ h9 => h9) rfl dX6_now_111 ?_
    refine va_get (pc := 114) (D := E.1) (ci := 2) (v := .ref (a 3)) (C := RX4) (T := TX4) (N := 8) hx hb hts i_RX4 hown hK hP 1 rfl rfl 4 (Nat.le_of_ble_eq_true rfl) fl_77 (fun _ h9 => h9) rfl dX6_now_114 ?_
    refine lv_iconst (pc := 117) (v := 1) hx hb dX6_now_117 (by decide) ?_
    refine va_iald (pc := 118) (D := E.1) hx hb hK hP 3 0 rfl rfl (by decide : ¬ ((1 : Int32) < 0 ∨ 2 ≤ (1 : Int32).toNatClampNeg)) dX6_now_118 ?_
    refine W.eq (g2 := F0 m 119 ls [.int (w0.1.2.2.2.2.1 1)]) rfl ?_
    exact pv_riRW (w := fun w : pv_XT => pv_wX E a w) hx hb hr hlk hAe hS hP (Option.some.inj hq) dX6_now_119
  have hq := pv_neg c_8 hq
  refine lv_tableOut (pc := 1) (tgt := 120) hx hb dX6_now_1 (pv_swr (x := x1) 0 7 (fun k h1 h2 => (fun e7 => Or.elim e7 (fun e8 e9 => c_1 ((e9.trans (congrArg Int32.ofInt e8)).trans (by decide))) (fun e7 => Or.elim e7 (fun e8 e9 => c_2 ((e9.trans (congrArg Int32.ofInt e8)).trans (by decide))) (fun e7 => Or.elim e7 (fun e8 e9 => c_3 ((e9.trans (congrArg Int32.ofInt e8)).trans (by decide))) (fun e7 => Or.elim e7 (fun e8 e9 => c_4 ((e9.trans (congrArg Int32.ofInt e8)).trans (by decide))) (fun e7 => Or.elim e7 (fun e8 e9 => c_5 ((e9.trans (congrArg Int32.ofInt e8)).trans (by decide))) (fun e7 => Or.elim e7 (fun e8 e9 => c_6 ((e9.trans (congrArg Int32.ofInt e8)).trans (by decide))) (fun e7 => Or.elim e7 (fun e8 e9 => c_7 ((e9.trans (congrArg Int32.ofInt e8)).trans (by decide))) (fun e8 e9 => c_8 ((e9.trans (congrArg Int32.ofInt e8)).trans (by decide)))))))))) (show k = 0 ∨ k = 1 ∨ k = 2 ∨ k = 3 ∨ k = 4 ∨ k = 5 ∨ k = 6 ∨ k = 7 by omega))) (by decide) ?_
  refine lv_aload_n (pc := 120) hx hb dX6_now_120 rfl (lv_at hl 0 rfl) ?_
  refine lv_ldc (pc := 121) hx hb hown lc_51 dX6_now_121 ?_
  obtain ⟨u_9, hu_9, hq⟩ := pv_bind hq
  refine pv_vRWf (pc := 123) (rest := []) (st1 := [.int u_9.1]) (ws := pv_wX E a w0) [.int (-1000000001)] ⟨hx, hb, hml, hown, hts⟩ hE hA hS hP (hD w0) (c_X6_finding l E a (-1000000001) w0 u_9 hu_9) (cwV 1 hts gX6_now_X6_finding rfl rfl rfl (by decide +kernel) ⟨(Nat.le_of_ble_eq_true rfl), (Nat.le_of_ble_eq_true rfl)⟩) (va_recv hK hP (ci := 4) (q0 := 0) rfl rfl) rfl hl.1 rfl rfl (Nat.le_of_ble_eq_true rfl) dX6_now_123 ⟨Nat.zero_le _, Nat.zero_le _⟩ (fun H locs hP hS => ?_)
  have hP : va_P E.1 vwCl (pv_wX E a u_9.2) H := hP
  exact pv_riRW (w := fun w : pv_XT => pv_wX E a w) hx hb hr hlk hAe hS hP (Option.some.inj hq) dX6_now_126
def m_X6_card_21  (w : pv_XT) : Option (Int32 × pv_XT) :=
  Option.bind (m_X6_finding (-1000000001) w) fun u_2 => (some (u_2.1, u_2.2))
def m_X6_card (x1 : Int32) (x2 : Int32) (w : pv_XT) : Option (Int32 × pv_XT) :=
  if (m_X6_isWithin x1 0 7) = 0 then (m_X6_card_21 w) else (if (m_X6_isWithin x2 0 9999) = 0 then (m_X6_card_21 w) else (some ((m_X0_dealt w.1.2.1 x1 x2), w)))
abbrev r_X6_card : Room := { frames := 1, cells := 0, slots := 0, locals := 22 }
set_option maxHeartbeats 4000000 in
set_option maxRecDepth 100000 in
theorem c_X6_card (l : Launch) (E : pv_E) (a : Nat → Nat) (x1 : Int32) (x2 : Int32) (w0 : pv_XT) (F : Int32 × pv_XT) (hq : m_X6_card x1 x2 w0 = some F) : pv_RW l E yX6_card wsX6_card r_X6_card (pv_wX E a w0) [.ref (a 0), .int x1, .int x2] (some (.int F.1)) (pv_wX E a F.2) := by
  intro sz
  refine pv_mk (by decide) rfl (Nat.le_of_ble_eq_true rfl) ?_
  intro p e s m args below meth c A hx hb hr hml hown hts hlk hAe hP hD0 hA hE hS ls hl
  have hown : s.vm.findClass RX6 = some m.cls := hown
  have hK := hE.1
  have hD : ∀ w : pv_XT, va_D A (pv_wX E a w) := fun w => pv_Dm (ws := pv_wX E a w0) (ws' := pv_wX E a w) rfl hD0
  have hP : va_P E.1 vwCl (pv_wX E a w0) s.heap := hP
  have lc_51 : (Cond.constant RX6 51 (-1000000001)).before args s = true := hts _ (by decide +kernel)
  have fl_10 : (Cond.fieldLink RX6 10 "ProvinceCards" "table" "LProvinceCards$Table;").before args s = true := hts _ (by decide +kernel)
  have fl_56 : (Cond.fieldLink RX6 56 "ProvinceCards$Table" "mixing" "I").before args s = true := hts _ (by decide +kernel)
  have i_RX6 : ∀ w ∈ wsX60, w ∈ wsX6_card := by decide +kernel
  have i_RX4 : ∀ w ∈ wsX40, w ∈ wsX6_card := by decide +kernel
  have hl : lv_has ls 3 [(0, .ref (a 0)), (1, .int x1), (2, .int x2)] := hl
  have B_21 : ∀  (w : pv_XT) (H : Heap) (locs : List Loc) (ls : Array Slot), va_P E.1 vwCl (pv_wX E a w) H → va_S A s.heap H locs → lv_has ls 3 [(0, .ref (a 0))] → m_X6_card_21 w = some F → W p l e r_X6_card s m args below meth c H locs 0 0 (MQ below (pv_Rw E (pv_wX E a w0) sz (some (.int F.1)) ((fun w : pv_XT => pv_wX E a w) F.2)) args s 0 0 A) (F0 m 21 ls []) := by
    intro w H locs ls hP hS hl hq
    refine lv_aload_n (pc := 21) hx hb dX6_card_21 rfl (lv_at hl 0 rfl) ?_
    refine lv_ldc (pc := 22) hx hb hown lc_51 dX6_card_22 ?_
    obtain ⟨u_2, hu_2, hq⟩ := pv_bind hq
    refine pv_vRWf (pc := 24) (rest := []) (st1 := [.int u_2.1]) (ws := pv_wX E a w) [.int (-1000000001)] ⟨hx, hb, hml, hown, hts⟩ hE hA hS hP (hD w) (c_X6_finding l E a (-1000000001) w u_2 hu_2) (cwV 1 hts gX6_card_X6_finding rfl rfl rfl (by decide +kernel) ⟨(Nat.le_of_ble_eq_true rfl), (Nat.le_of_ble_eq_true rfl)⟩) (va_recv hK hP (ci := 4) (q0 := 0) rfl rfl) rfl hl.1 rfl rfl (Nat.le_of_ble_eq_true rfl) dX6_card_24 ⟨Nat.zero_le _, Nat.zero_le _⟩ (fun H locs hP hS => ?_)
    have hP : va_P E.1 vwCl (pv_wX E a u_2.2) H := hP
    exact pv_riRW (w := fun w : pv_XT => pv_wX E a w) hx hb hr hlk hAe hS hP (Option.some.inj hq) dX6_card_27
  suffices M0 : ∀ (H : Heap) (locs : List Loc), va_P E.1 vwCl (pv_wX E a w0) H → va_S A s.heap H locs → W p l e r_X6_card s m args below meth c H locs 0 0 (MQ below (pv_Rw E (pv_wX E a w0) sz (some (.int F.1)) ((fun w : pv_XT => pv_wX E a w) F.2)) args s 0 0 A) (F0 m 0 ls []) from M0 s.heap [] hP hS
  intro H locs hP hS
  refine lv_iload_n (pc := 0) hx hb dX6_card_0 rfl (lv_at hl 1 rfl) ?_
  refine lv_iconst (pc := 1) (v := 0) hx hb dX6_card_1 (by decide) ?_
  refine lv_bipush (pc := 2) (v := 7) hx hb dX6_card_2 (by decide) ?_
  refine pv_sRO (pc := 4) (rest := []) (st1 := [.int (m_X6_isWithin x1 0 7)]) (ws := pv_wX E a w0) [.int x1, .int 0, .int 7] ⟨hx, hb, hml, hown, hts⟩ hE hA hS hP (hD w0) (c_X6_isWithin l E x1 0 7) (va_cwS 3 hts gX6_card_X6_isWithin rfl rfl rfl (by decide +kernel) ⟨(Nat.le_of_ble_eq_true rfl), (Nat.le_of_ble_eq_true rfl)⟩) [] rfl rfl rfl hl.1 rfl rfl (Nat.le_of_ble_eq_true rfl) dX6_card_4 ⟨Nat.zero_le _, Nat.zero_le _⟩ (fun locs hS => ?_)
  refine lv_if_eq (pc := 7) (tgt := 21) hx hb dX6_card_7 (by decide) (fun c_1 => ?_) (fun c_1 => ?_)
  · have hq := pv_pos c_1 hq
    exact B_21 w0 H locs ls hP hS (lv_sub hl [0] rfl) hq
  · have hq := pv_neg c_1 hq
    refine lv_iload_n (pc := 10) hx hb dX6_card_10 rfl (lv_at hl 2 rfl) ?_
    refine lv_iconst (pc := 11) (v := 0) hx hb dX6_card_11 (by decide) ?_
    refine lv_sipush (pc := 12) (v := 9999) hx hb dX6_card_12 (by decide) ?_
    refine pv_sRO (pc := 15) (rest := []) (st1 := [.int (m_X6_isWithin x2 0 9999)]) (ws := pv_wX E a w0) [.int x2, .int 0, .int 9999] ⟨hx, hb, hml, hown, hts⟩ hE hA hS hP (hD w0) (c_X6_isWithin l E x2 0 9999) (va_cwS 3 hts gX6_card_X6_isWithin rfl rfl rfl (by decide +kernel) ⟨(Nat.le_of_ble_eq_true rfl), (Nat.le_of_ble_eq_true rfl)⟩) [] rfl rfl rfl hl.1 rfl rfl (Nat.le_of_ble_eq_true rfl) dX6_card_15 ⟨Nat.zero_le _, Nat.zero_le _⟩ (fun locs hS => ?_)
    refine lv_if_ne (pc := 18) (tgt := 28) hx hb dX6_card_18 (by decide) (fun c_3 => ?_) (fun c_3 => ?_)
    · have hq := pv_neg c_3 hq
      refine lv_aload_n (pc := 28) hx hb dX6_card_28 rfl (lv_at hl 0 rfl) ?_
      refine va_get (pc := 29) (D := E.1) (ci := 4) (v := .ref (a 1)) (C := RX6) (T := TX6) (N := 8) hx hb hts i_RX6 hown hK hP 0 rfl rfl 0 (Nat.le_of_ble_eq_true rfl) fl_10 (fun _ h9 => h9) rfl dX6_card_29 ?_
      refine va_get (pc := 32) (D := E.1) (ci := 2) (v := .int w0.1.2.1) (C := RX4) (T := TX4) (N := 8) hx hb hts i_RX4 hown hK hP 1 rfl rfl 1 (Nat.le_of_ble_eq_true rfl) fl_56 (fun _ h9 => h9) rfl dX6_card_32 ?_
      refine lv_iload_n (pc := 35) hx hb dX6_card_35 rfl (lv_at hl 1 rfl) ?_
      refine lv_iload_n (pc := 36) hx hb dX6_card_36 rfl (lv_at hl 2 rfl) ?_
      refine pv_sRO (pc := 37) (rest := []) (st1 := [.int (m_X0_dealt w0.1.2.1 x1 x2)]) (ws := pv_wX E a w0) [.int w0.1.2.1, .int x1, .int x2] ⟨hx, hb, hml, hown, hts⟩ hE hA hS hP (hD w0) (c_X0_dealt l E w0.1.2.1 x1 x2) (va_cwS 3 hts gX6_card_X0_dealt rfl rfl rfl (by decide +kernel) ⟨(Nat.le_of_ble_eq_true rfl), (Nat.le_of_ble_eq_true rfl)⟩) [] rfl rfl rfl hl.1 rfl rfl (Nat.le_of_ble_eq_true rfl) dX6_card_37 ⟨Nat.zero_le _, Nat.zero_le _⟩ (fun locs hS => ?_)
      exact pv_riRW (w := fun w : pv_XT => pv_wX E a w) hx hb hr hlk hAe hS hP (Option.some.inj hq) dX6_card_40
    · have hq := pv_pos c_3 hq
      exact B_21 w0 H locs ls hP hS (lv_sub hl [0] rfl) hq
def m_X6_envoy (x1 : Int32) (w : pv_XT) : Option (Int32 × pv_XT) :=
  if (m_X6_isKind x1) = 0 then (Option.bind (m_X6_finding (-1000000001) w) fun u_5 => (some (u_5.1, u_5.2))) else (if w.1.2.2.1 < 8 then (Option.bind (m_X4_seat x1 w.1) fun u_3 => (some (u_3.1, (u_3.2, w.2.1, w.2.2.1, w.2.2.2.1, w.2.2.2.2.1, w.2.2.2.2.2.1, w.2.2.2.2.2.2.1, w.2.2.2.2.2.2.2)))) else (Option.bind (m_X6_finding (-1000000002) w) fun u_4 => (some (u_4.1, u_4.2))))
abbrev r_X6_envoy : Room := { frames := 1, cells := 0, slots := 0, locals := 22 }
set_option maxHeartbeats 4000000 in
set_option maxRecDepth 100000 in
theorem c_X6_envoy (l : Launch) (E : pv_E) (a : Nat → Nat) (x1 : Int32) (w0 : pv_XT) (F : Int32 × pv_XT) (hq : m_X6_envoy x1 w0 = some F) : pv_RW l E yX6_envoy wsX6_envoy r_X6_envoy (pv_wX E a w0) [.ref (a 0), .int x1] (some (.int F.1)) (pv_wX E a F.2) := by
  intro sz
  refine pv_mk (by decide) rfl (Nat.le_of_ble_eq_true rfl) ?_
  intro p e s m args below meth c A hx hb hr hml hown hts hlk hAe hP hD0 hA hE hS ls hl
  have hown : s.vm.findClass RX6 = some m.cls := hown
  have hK := hE.1
  have hD : ∀ w : pv_XT, va_D A (pv_wX E a w) := fun w => pv_Dm (ws := pv_wX E a w0) (ws' := pv_wX E a w) rfl hD0
  have hP : va_P E.1 vwCl (pv_wX E a w0) s.heap := hP
  have fl_10 : (Cond.fieldLink RX6 10 "ProvinceCards" "table" "LProvinceCards$Table;").before args s = true := hts _ (by decide +kernel)
  have fl_102 : (Cond.fieldLink RX6 102 "ProvinceCards$Table" "envoys" "I").before args s = true := hts _ (by decide +kernel)
  have lc_105 : (Cond.constant RX6 105 (-1000000002)).before args s = true := hts _ (by decide +kernel)
  have lc_51 : (Cond.constant RX6 51 (-1000000001)).before args s = true := hts _ (by decide +kernel)
  have i_RX6 : ∀ w ∈ wsX60, w ∈ wsX6_envoy := by decide +kernel
  have i_RX4 : ∀ w ∈ wsX40, w ∈ wsX6_envoy := by decide +kernel
  have hl : lv_has ls 2 [(0, .ref (a 0)), (1, .int x1)] := hl
  suffices M0 : ∀ (H : Heap) (locs : List Loc), va_P E.1 vwCl (pv_wX E a w0) H → va_S A s.heap H locs → W p l e r_X6_envoy s m args below meth c H locs 0 0 (MQ below (pv_Rw E (pv_wX E a w0) sz (some (.int F.1)) ((fun w : pv_XT => pv_wX E a w) F.2)) args s 0 0 A) (F0 m 0 ls []) from M0 s.heap [] hP hS
  intro H locs hP hS
  refine lv_iload_n (pc := 0) hx hb dX6_envoy_0 rfl (lv_at hl 1 rfl) ?_
  refine pv_sRO (pc := 1) (rest := []) (st1 := [.int (m_X6_isKind x1)]) (ws := pv_wX E a w0) [.int x1] ⟨hx, hb, hml, hown, hts⟩ hE hA hS hP (hD w0) (c_X6_isKind l E x1) (va_cwS 1 hts gX6_envoy_X6_isKind rfl rfl rfl (by decide +kernel) ⟨(Nat.le_of_ble_eq_true rfl), (Nat.le_of_ble_eq_true rfl)⟩) [] rfl rfl rfl hl.1 rfl rfl (Nat.le_of_ble_eq_true rfl) dX6_envoy_1 ⟨Nat.zero_le _, Nat.zero_le _⟩ (fun locs hS => ?_)
  refine lv_if_ne (pc := 4) (tgt := 14) hx hb dX6_envoy_4 (by decide) (fun c_1 => ?_) (fun c_1 => ?_)
  · have hq := pv_neg c_1 hq
    refine lv_aload_n (pc := 14) hx hb dX6_envoy_14 rfl (lv_at hl 0 rfl) ?_
    refine va_get (pc := 15) (D := E.1) (ci := 4) (v := .ref (a 1)) (C := RX6) (T := TX6) (N := 8) hx hb hts i_RX6 hown hK hP 0 rfl rfl 0 (Nat.le_of_ble_eq_true rfl) fl_10 (fun _ h9 => h9) rfl dX6_envoy_15 ?_
    refine va_get (pc := 18) (D := E.1) (ci := 2) (v := .int w0.1.2.2.1) (C := RX4) (T := TX4) (N := 8) hx hb hts i_RX4 hown hK hP 1 rfl rfl 2 (Nat.le_of_ble_eq_true rfl) fl_102 (fun _ h9 => h9) rfl dX6_envoy_18 ?_
    refine lv_bipush (pc := 21) (v := 8) hx hb dX6_envoy_21 (by decide) ?_
    refine lv_icmp_lt (pc := 23) (tgt := 33) hx hb dX6_envoy_23 (by decide) (fun c_2 => ?_) (fun c_2 => ?_)
    · have hq := pv_pos c_2 hq
      refine lv_aload_n (pc := 33) hx hb dX6_envoy_33 rfl (lv_at hl 0 rfl) ?_
      refine va_get (pc := 34) (D := E.1) (ci := 4) (v := .ref (a 1)) (C := RX6) (T := TX6) (N := 8) hx hb hts i_RX6 hown hK hP 0 rfl rfl 0 (Nat.le_of_ble_eq_true rfl) fl_10 (fun _ h9 => h9) rfl dX6_envoy_34 ?_
      refine lv_iload_n (pc := 37) hx hb dX6_envoy_37 rfl (lv_at hl 1 rfl) ?_
      obtain ⟨u_3, hu_3, hq⟩ := pv_bind hq
      refine pv_vRW (pc := 38) (rest := []) (st1 := [.int u_3.1]) (ws := pv_wX E a w0) (ws' := pv_wX E a (u_3.2, w0.2.1, w0.2.2.1, w0.2.2.2.1, w0.2.2.2.2.1, w0.2.2.2.2.2.1, w0.2.2.2.2.2.2.1, w0.2.2.2.2.2.2.2)) [.int x1] ⟨hx, hb, hml, hown, hts⟩ hE hA hS hP (hD w0) (c_X4_seat l E (a 1) (a 2) (a 3) (a 4) (a 5) (a 6) x1 w0.1 u_3 hu_3) (cwV 1 hts gX6_envoy_X4_seat rfl rfl rfl (by decide +kernel) ⟨(Nat.le_of_ble_eq_true rfl), (Nat.le_of_ble_eq_true rfl)⟩) (va_recv hK hP (ci := 2) (q0 := 1) rfl rfl) [1, 2, 3, 4, 5, 6] rfl rfl rfl rfl rfl hl.1 rfl rfl (Nat.le_of_ble_eq_true rfl) dX6_envoy_38 ⟨Nat.zero_le _, Nat.zero_le _⟩ (fun H locs hP hS => ?_)
      exact pv_riRW (w := fun w : pv_XT => pv_wX E a w) hx hb hr hlk hAe hS hP (Option.some.inj hq) dX6_envoy_41
    · have hq := pv_neg c_2 hq
      refine lv_aload_n (pc := 26) hx hb dX6_envoy_26 rfl (lv_at hl 0 rfl) ?_
      refine lv_ldc (pc := 27) hx hb hown lc_105 dX6_envoy_27 ?_
      obtain ⟨u_4, hu_4, hq⟩ := pv_bind hq
      refine pv_vRWf (pc := 29) (rest := []) (st1 := [.int u_4.1]) (ws := pv_wX E a w0) [.int (-1000000002)] ⟨hx, hb, hml, hown, hts⟩ hE hA hS hP (hD w0) (c_X6_finding l E a (-1000000002) w0 u_4 hu_4) (cwV 1 hts gX6_envoy_X6_finding rfl rfl rfl (by decide +kernel) ⟨(Nat.le_of_ble_eq_true rfl), (Nat.le_of_ble_eq_true rfl)⟩) (va_recv hK hP (ci := 4) (q0 := 0) rfl rfl) rfl hl.1 rfl rfl (Nat.le_of_ble_eq_true rfl) dX6_envoy_29 ⟨Nat.zero_le _, Nat.zero_le _⟩ (fun H locs hP hS => ?_)
      have hP : va_P E.1 vwCl (pv_wX E a u_4.2) H := hP
      exact pv_riRW (w := fun w : pv_XT => pv_wX E a w) hx hb hr hlk hAe hS hP (Option.some.inj hq) dX6_envoy_32
  · have hq := pv_pos c_1 hq
    refine lv_aload_n (pc := 7) hx hb dX6_envoy_7 rfl (lv_at hl 0 rfl) ?_
    refine lv_ldc (pc := 8) hx hb hown lc_51 dX6_envoy_8 ?_
    obtain ⟨u_5, hu_5, hq⟩ := pv_bind hq
    refine pv_vRWf (pc := 10) (rest := []) (st1 := [.int u_5.1]) (ws := pv_wX E a w0) [.int (-1000000001)] ⟨hx, hb, hml, hown, hts⟩ hE hA hS hP (hD w0) (c_X6_finding l E a (-1000000001) w0 u_5 hu_5) (cwV 1 hts gX6_envoy_X6_finding rfl rfl rfl (by decide +kernel) ⟨(Nat.le_of_ble_eq_true rfl), (Nat.le_of_ble_eq_true rfl)⟩) (va_recv hK hP (ci := 4) (q0 := 0) rfl rfl) rfl hl.1 rfl rfl (Nat.le_of_ble_eq_true rfl) dX6_envoy_10 ⟨Nat.zero_le _, Nat.zero_le _⟩ (fun H locs hP hS => ?_)
    have hP : va_P E.1 vwCl (pv_wX E a u_5.2) H := hP
    exact pv_riRW (w := fun w : pv_XT => pv_wX E a w) hx hb hr hlk hAe hS hP (Option.some.inj hq) dX6_envoy_13
def m_X6_of (x1 : Int32) (x2 : Int32) (w : pv_XT) : Option (Int32 × pv_XT) :=
  if (m_X6_isEnvoy x1 w) = 0 then (Option.bind (m_X6_finding (-1000000001) w) fun u_9 => (some (u_9.1, u_9.2))) else (if x2 = 0 then (pv_gd x1 8 (some ((w.1.2.2.2.2.2.2.1 x1.toNatClampNeg), w))) else if x2 = 1 then (pv_gd x1 8 (some ((w.1.2.2.2.2.2.2.2 x1.toNatClampNeg), w))) else if x2 = 2 then (Option.bind (m_X4_senders x1 w.1) fun u_7 => (some (u_7, w))) else (Option.bind (m_X6_finding (-1000000001) w) fun u_8 => (some (u_8.1, u_8.2))))
abbrev r_X6_of : Room := { frames := 1, cells := 0, slots := 0, locals := 22 }
set_option maxHeartbeats 4000000 in
set_option maxRecDepth 100000 in
theorem c_X6_of (l : Launch) (E : pv_E) (a : Nat → Nat) (x1 : Int32) (x2 : Int32) (w0 : pv_XT) (F : Int32 × pv_XT) (hq : m_X6_of x1 x2 w0 = some F) : pv_RW l E yX6_of wsX6_of r_X6_of (pv_wX E a w0) [.ref (a 0), .int x1, .int x2] (some (.int F.1)) (pv_wX E a F.2) := by
  intro sz
  refine pv_mk (by decide) rfl (Nat.le_of_ble_eq_true rfl) ?_
  intro p e s m args below meth c A hx hb hr hml hown hts hlk hAe hP hD0 hA hE hS ls hl
  have hown : s.vm.findClass RX6 = some m.cls := hown
  have hK := hE.1
  have hD : ∀ w : pv_XT, va_D A (pv_wX E a w) := fun w => pv_Dm (ws := pv_wX E a w0) (ws' := pv_wX E a w) rfl hD0
  have hP : va_P E.1 vwCl (pv_wX E a w0) s.heap := hP
  have fl_10 : (Cond.fieldLink RX6 10 "ProvinceCards" "table" "LProvinceCards$Table;").before args s = true := hts _ (by decide +kernel)
  have fl_112 : (Cond.fieldLink RX6 112 "ProvinceCards$Table" "kinds" "[I").before args s = true := hts _ (by decide +kernel)
  have fl_115 : (Cond.fieldLink RX6 115 "ProvinceCards$Table" "wins" "[I").before args s = true := hts _ (by decide +kernel)
  have lc_51 : (Cond.constant RX6 51 (-1000000001)).before args s = true := hts _ (by decide +kernel)
  have i_RX6 : ∀ w ∈ wsX60, w ∈ wsX6_of := by decide +kernel
  have i_RX4 : ∀ w ∈ wsX40, w ∈ wsX6_of := by decide +kernel
  have hl : lv_has ls 3 [(0, .ref (a 0)), (1, .int x1), (2, .int x2)] := hl
  suffices M0 : ∀ (H : Heap) (locs : List Loc), va_P E.1 vwCl (pv_wX E a w0) H → va_S A s.heap H locs → W p l e r_X6_of s m args below meth c H locs 0 0 (MQ below (pv_Rw E (pv_wX E a w0) sz (some (.int F.1)) ((fun w : pv_XT => pv_wX E a w) F.2)) args s 0 0 A) (F0 m 0 ls []) from M0 s.heap [] hP hS
  intro H locs hP hS
  refine lv_aload_n (pc := 0) hx hb dX6_of_0 rfl (lv_at hl 0 rfl) ?_
  refine lv_iload_n (pc := 1) hx hb dX6_of_1 rfl (lv_at hl 1 rfl) ?_
  refine pv_vROf (pc := 2) (rest := []) (st1 := [.int (m_X6_isEnvoy x1 w0)]) (ws := pv_wX E a w0) [.int x1] ⟨hx, hb, hml, hown, hts⟩ hE hA hS hP (hD w0) (c_X6_isEnvoy l E a x1 w0) (cwV 1 hts gX6_of_X6_isEnvoy rfl rfl rfl (by decide +kernel) ⟨(Nat.le_of_ble_eq_true rfl), (Nat.le_of_ble_eq_true rfl)⟩) (va_recv hK hP (ci := 4) (q0 := 0) rfl rfl) rfl hl.1 rfl rfl (Nat.le_of_ble_eq_true rfl) dX6_of_2 ⟨Nat.zero_le _, Nat.zero_le _⟩ (fun locs hS => ?_)
  refine lv_if_ne (pc := 5) (tgt := 15) hx hb dX6_of_5 (by decide) (fun c_1 => ?_) (fun c_1 => ?_)
  · have hq := pv_neg c_1 hq
    refine lv_iload_n (pc := 15) hx hb dX6_of_15 rfl (lv_at hl 2 rfl) ?_
    by_cases c_2 : x2 = 0
    · have hq := pv_pos c_2 hq
      refine lv_tableIn (pc := 16) (tgt := 44) (off := 28) hx hb dX6_of_16 (by rw [c_2]; decide) (by rw [c_2]; decide) (by rw [c_2]; rfl) (by decide) ?_
      refine lv_aload_n (pc := 44) hx hb dX6_of_44 rfl (lv_at hl 0 rfl) ?_
      refine va_get (pc := 45) (D := E.1) (ci := 4) (v := .ref (a 1)) (C := RX6) (T := TX6) (N := 8) hx hb hts i_RX6 hown hK hP 0 rfl rfl 0 (Nat.le_of_ble_eq_true rfl) fl_10 (fun _ h9 => h9) rfl dX6_of_45 ?_
      refine va_get (pc := 48) (D := E.1) (ci := 2) (v := .ref (a 5)) (C := RX4) (T := TX4) (N := 8) hx hb hts i_RX4 hown hK hP 1 rfl rfl 6 (Nat.le_of_ble_eq_true rfl) fl_112 (fun _ h9 => h9) rfl dX6_of_48 ?_
      refine lv_iload_n (pc := 51) hx hb dX6_of_51 rfl (lv_at hl 1 rfl) ?_
      obtain ⟨h_3, hq⟩ := pv_gd_some hq
      refine va_iald (pc := 52) (D := E.1) hx hb hK hP 5 0 rfl rfl h_3 dX6_of_52 ?_
      exact pv_riRW (w := fun w : pv_XT => pv_wX E a w) hx hb hr hlk hAe hS hP (Option.some.inj hq) dX6_of_53
    have hq := pv_neg c_2 hq
    by_cases c_4 : x2 = 1
    · have hq := pv_pos c_4 hq
      refine lv_tableIn (pc := 16) (tgt := 54) (off := 38) hx hb dX6_of_16 (by rw [c_4]; decide) (by rw [c_4]; decide) (by rw [c_4]; rfl) (by decide) ?_
      refine lv_aload_n (pc := 54) hx hb dX6_of_54 rfl (lv_at hl 0 rfl) ?_
      refine va_get (pc := 55) (D := E.1) (ci := 4) (v := .ref (a 1)) (C := RX6) (T := TX6) (N := 8) hx hb hts i_RX6 hown hK hP 0 rfl rfl 0 (Nat.le_of_ble_eq_true rfl) fl_10 (fun _ h9 => h9) rfl dX6_of_55 ?_
      refine va_get (pc := 58) (D := E.1) (ci := 2) (v := .ref (a 6)) (C := RX4) (T := TX4) (N := 8) hx hb hts i_RX4 hown hK hP 1 rfl rfl 7 (Nat.le_of_ble_eq_true rfl) fl_115 (fun _ h9 => h9) rfl dX6_of_58 ?_
      refine lv_iload_n (pc := 61) hx hb dX6_of_61 rfl (lv_at hl 1 rfl) ?_
      obtain ⟨h_5, hq⟩ := pv_gd_some hq
      refine va_iald (pc := 62) (D := E.1) hx hb hK hP 6 0 rfl rfl h_5 dX6_of_62 ?_
      exact pv_riRW (w := fun w : pv_XT => pv_wX E a w) hx hb hr hlk hAe hS hP (Option.some.inj hq) dX6_of_63
    have hq := pv_neg c_4 hq
    by_cases c_6 : x2 = 2
    · have hq := pv_pos c_6 hq
      refine lv_tableIn (pc := 16) (tgt := 64) (off := 48) hx hb dX6_of_16 (by rw [c_6]; decide) (by rw [c_6]; decide) (by rw [c_6]; rfl) (by decide) ?_
      refine lv_aload_n (pc := 64) hx hb dX6_of_64 rfl (lv_at hl 0 rfl) ?_
      refine va_get (pc := 65) (D := E.1) (ci := 4) (v := .ref (a 1)) (C := RX6) (T := TX6) (N := 8) hx hb hts i_RX6 hown hK hP 0 rfl rfl 0 (Nat.le_of_ble_eq_true rfl) fl_10 (fun _ h9 => h9) rfl dX6_of_65 ?_
      refine lv_iload_n (pc := 68) hx hb dX6_of_68 rfl (lv_at hl 1 rfl) ?_
      obtain ⟨u_7, hu_7, hq⟩ := pv_bind hq
      refine pv_vRO (pc := 69) (rest := []) (st1 := [.int u_7]) (ws := pv_wX E a w0) [.int x1] ⟨hx, hb, hml, hown, hts⟩ hE hA hS hP (hD w0) (c_X4_senders l E (a 1) (a 2) (a 3) (a 4) (a 5) (a 6) x1 w0.1 u_7 hu_7) (cwV 1 hts gX6_of_X4_senders rfl rfl rfl (by decide +kernel) ⟨(Nat.le_of_ble_eq_true rfl), (Nat.le_of_ble_eq_true rfl)⟩) (va_recv hK hP (ci := 2) (q0 := 1) rfl rfl) [1, 2, 3, 4, 5, 6] rfl rfl rfl hl.1 rfl rfl (Nat.le_of_ble_eq_true rfl) dX6_of_69 ⟨Nat.zero_le _, Nat.zero_le _⟩ (fun locs hS => ?_)
      exact pv_riRW (w := fun w : pv_XT => pv_wX E a w) hx hb hr hlk hAe hS hP (Option.some.inj hq) dX6_of_72
    have hq := pv_neg c_6 hq
    refine lv_tableOut (pc := 16) (tgt := 73) hx hb dX6_of_16 (pv_swr (x := x2) 0 2 (fun k h1 h2 => (fun e7 => Or.elim e7 (fun e8 e9 => c_2 ((e9.trans (congrArg Int32.ofInt e8)).trans (by decide))) (fun e7 => Or.elim e7 (fun e8 e9 => c_4 ((e9.trans (congrArg Int32.ofInt e8)).trans (by decide))) (fun e8 e9 => c_6 ((e9.trans (congrArg Int32.ofInt e8)).trans (by decide))))) (show k = 0 ∨ k = 1 ∨ k = 2 by omega))) (by decide) ?_
    refine lv_aload_n (pc := 73) hx hb dX6_of_73 rfl (lv_at hl 0 rfl) ?_
    refine lv_ldc (pc := 74) hx hb hown lc_51 dX6_of_74 ?_
    obtain ⟨u_8, hu_8, hq⟩ := pv_bind hq
    refine pv_vRWf (pc := 76) (rest := []) (st1 := [.int u_8.1]) (ws := pv_wX E a w0) [.int (-1000000001)] ⟨hx, hb, hml, hown, hts⟩ hE hA hS hP (hD w0) (c_X6_finding l E a (-1000000001) w0 u_8 hu_8) (cwV 1 hts gX6_of_X6_finding rfl rfl rfl (by decide +kernel) ⟨(Nat.le_of_ble_eq_true rfl), (Nat.le_of_ble_eq_true rfl)⟩) (va_recv hK hP (ci := 4) (q0 := 0) rfl rfl) rfl hl.1 rfl rfl (Nat.le_of_ble_eq_true rfl) dX6_of_76 ⟨Nat.zero_le _, Nat.zero_le _⟩ (fun H locs hP hS => ?_)
    have hP : va_P E.1 vwCl (pv_wX E a u_8.2) H := hP
    exact pv_riRW (w := fun w : pv_XT => pv_wX E a w) hx hb hr hlk hAe hS hP (Option.some.inj hq) dX6_of_79
  · have hq := pv_pos c_1 hq
    refine lv_aload_n (pc := 8) hx hb dX6_of_8 rfl (lv_at hl 0 rfl) ?_
    refine lv_ldc (pc := 9) hx hb hown lc_51 dX6_of_9 ?_
    obtain ⟨u_9, hu_9, hq⟩ := pv_bind hq
    refine pv_vRWf (pc := 11) (rest := []) (st1 := [.int u_9.1]) (ws := pv_wX E a w0) [.int (-1000000001)] ⟨hx, hb, hml, hown, hts⟩ hE hA hS hP (hD w0) (c_X6_finding l E a (-1000000001) w0 u_9 hu_9) (cwV 1 hts gX6_of_X6_finding rfl rfl rfl (by decide +kernel) ⟨(Nat.le_of_ble_eq_true rfl), (Nat.le_of_ble_eq_true rfl)⟩) (va_recv hK hP (ci := 4) (q0 := 0) rfl rfl) rfl hl.1 rfl rfl (Nat.le_of_ble_eq_true rfl) dX6_of_11 ⟨Nat.zero_le _, Nat.zero_le _⟩ (fun H locs hP hS => ?_)
    have hP : va_P E.1 vwCl (pv_wX E a u_9.2) H := hP
    exact pv_riRW (w := fun w : pv_XT => pv_wX E a w) hx hb hr hlk hAe hS hP (Option.some.inj hq) dX6_of_14
def m_X6_turn_15  (w : pv_XT) : Option (Int32 × pv_XT) :=
  Option.bind (m_X6_finding (-1000000001) w) fun u_2 => (some (u_2.1, u_2.2))
def m_X6_turn (x1 : Int32) (x2 : Int32) (w : pv_XT) : Option (Int32 × pv_XT) :=
  if (m_X6_isEnvoy x1 w) = 0 then (m_X6_turn_15 w) else (if (m_X6_isKind x2) = 0 then (m_X6_turn_15 w) else (pv_gd x1 8 (pv_gd x1 8 (some ((w.1.2.2.2.2.2.2.1 x1.toNatClampNeg), ((w.1.1, w.1.2.1, w.1.2.2.1, w.1.2.2.2.1, w.1.2.2.2.2.1, w.1.2.2.2.2.2.1, (upd w.1.2.2.2.2.2.2.1 x1.toNatClampNeg x2), w.1.2.2.2.2.2.2.2), w.2.1, w.2.2.1, w.2.2.2.1, w.2.2.2.2.1, w.2.2.2.2.2.1, w.2.2.2.2.2.2.1, w.2.2.2.2.2.2.2))))))
abbrev r_X6_turn : Room := { frames := 1, cells := 0, slots := 0, locals := 22 }
set_option maxHeartbeats 4000000 in
set_option maxRecDepth 100000 in
theorem c_X6_turn (l : Launch) (E : pv_E) (a : Nat → Nat) (x1 : Int32) (x2 : Int32) (w0 : pv_XT) (F : Int32 × pv_XT) (hq : m_X6_turn x1 x2 w0 = some F) : pv_RW l E yX6_turn wsX6_turn r_X6_turn (pv_wX E a w0) [.ref (a 0), .int x1, .int x2] (some (.int F.1)) (pv_wX E a F.2) := by
  intro sz
  refine pv_mk (by decide) rfl (Nat.le_of_ble_eq_true rfl) ?_
  intro p e s m args below meth c A hx hb hr hml hown hts hlk hAe hP hD0 hA hE hS ls hl
  have hown : s.vm.findClass RX6 = some m.cls := hown
  have hK := hE.1
  have hD : ∀ w : pv_XT, va_D A (pv_wX E a w) := fun w => pv_Dm (ws := pv_wX E a w0) (ws' := pv_wX E a w) rfl hD0
  have hP : va_P E.1 vwCl (pv_wX E a w0) s.heap := hP
  have lc_51 : (Cond.constant RX6 51 (-1000000001)).before args s = true := hts _ (by decide +kernel)
  have fl_10 : (Cond.fieldLink RX6 10 "ProvinceCards" "table" "LProvinceCards$Table;").before args s = true := hts _ (by decide +kernel)
  have fl_112 : (Cond.fieldLink RX6 112 "ProvinceCards$Table" "kinds" "[I").before args s = true := hts _ (by decide +kernel)
  have i_RX6 : ∀ w ∈ wsX60, w ∈ wsX6_turn := by decide +kernel
  have i_RX4 : ∀ w ∈ wsX40, w ∈ wsX6_turn := by decide +kernel
  have hl : lv_has ls 4 [(0, .ref (a 0)), (1, .int x1), (2, .int x2)] := hl
  have B_15 : ∀  (w : pv_XT) (H : Heap) (locs : List Loc) (ls : Array Slot), va_P E.1 vwCl (pv_wX E a w) H → va_S A s.heap H locs → lv_has ls 4 [(0, .ref (a 0))] → m_X6_turn_15 w = some F → W p l e r_X6_turn s m args below meth c H locs 0 0 (MQ below (pv_Rw E (pv_wX E a w0) sz (some (.int F.1)) ((fun w : pv_XT => pv_wX E a w) F.2)) args s 0 0 A) (F0 m 15 ls []) := by
    intro w H locs ls hP hS hl hq
    refine lv_aload_n (pc := 15) hx hb dX6_turn_15 rfl (lv_at hl 0 rfl) ?_
    refine lv_ldc (pc := 16) hx hb hown lc_51 dX6_turn_16 ?_
    obtain ⟨u_2, hu_2, hq⟩ := pv_bind hq
    refine pv_vRWf (pc := 18) (rest := []) (st1 := [.int u_2.1]) (ws := pv_wX E a w) [.int (-1000000001)] ⟨hx, hb, hml, hown, hts⟩ hE hA hS hP (hD w) (c_X6_finding l E a (-1000000001) w u_2 hu_2) (cwV 1 hts gX6_turn_X6_finding rfl rfl rfl (by decide +kernel) ⟨(Nat.le_of_ble_eq_true rfl), (Nat.le_of_ble_eq_true rfl)⟩) (va_recv hK hP (ci := 4) (q0 := 0) rfl rfl) rfl hl.1 rfl rfl (Nat.le_of_ble_eq_true rfl) dX6_turn_18 ⟨Nat.zero_le _, Nat.zero_le _⟩ (fun H locs hP hS => ?_)
    have hP : va_P E.1 vwCl (pv_wX E a u_2.2) H := hP
    exact pv_riRW (w := fun w : pv_XT => pv_wX E a w) hx hb hr hlk hAe hS hP (Option.some.inj hq) dX6_turn_21
  suffices M0 : ∀ (H : Heap) (locs : List Loc), va_P E.1 vwCl (pv_wX E a w0) H → va_S A s.heap H locs → W p l e r_X6_turn s m args below meth c H locs 0 0 (MQ below (pv_Rw E (pv_wX E a w0) sz (some (.int F.1)) ((fun w : pv_XT => pv_wX E a w) F.2)) args s 0 0 A) (F0 m 0 ls []) from M0 s.heap [] hP hS
  intro H locs hP hS
  refine lv_aload_n (pc := 0) hx hb dX6_turn_0 rfl (lv_at hl 0 rfl) ?_
  refine lv_iload_n (pc := 1) hx hb dX6_turn_1 rfl (lv_at hl 1 rfl) ?_
  refine pv_vROf (pc := 2) (rest := []) (st1 := [.int (m_X6_isEnvoy x1 w0)]) (ws := pv_wX E a w0) [.int x1] ⟨hx, hb, hml, hown, hts⟩ hE hA hS hP (hD w0) (c_X6_isEnvoy l E a x1 w0) (cwV 1 hts gX6_turn_X6_isEnvoy rfl rfl rfl (by decide +kernel) ⟨(Nat.le_of_ble_eq_true rfl), (Nat.le_of_ble_eq_true rfl)⟩) (va_recv hK hP (ci := 4) (q0 := 0) rfl rfl) rfl hl.1 rfl rfl (Nat.le_of_ble_eq_true rfl) dX6_turn_2 ⟨Nat.zero_le _, Nat.zero_le _⟩ (fun locs hS => ?_)
  refine lv_if_eq (pc := 5) (tgt := 15) hx hb dX6_turn_5 (by decide) (fun c_1 => ?_) (fun c_1 => ?_)
  · have hq := pv_pos c_1 hq
    exact B_15 w0 H locs ls hP hS (lv_sub hl [0] rfl) hq
  · have hq := pv_neg c_1 hq
    refine lv_iload_n (pc := 8) hx hb dX6_turn_8 rfl (lv_at hl 2 rfl) ?_
    refine pv_sRO (pc := 9) (rest := []) (st1 := [.int (m_X6_isKind x2)]) (ws := pv_wX E a w0) [.int x2] ⟨hx, hb, hml, hown, hts⟩ hE hA hS hP (hD w0) (c_X6_isKind l E x2) (va_cwS 1 hts gX6_turn_X6_isKind rfl rfl rfl (by decide +kernel) ⟨(Nat.le_of_ble_eq_true rfl), (Nat.le_of_ble_eq_true rfl)⟩) [] rfl rfl rfl hl.1 rfl rfl (Nat.le_of_ble_eq_true rfl) dX6_turn_9 ⟨Nat.zero_le _, Nat.zero_le _⟩ (fun locs hS => ?_)
    refine lv_if_ne (pc := 12) (tgt := 22) hx hb dX6_turn_12 (by decide) (fun c_3 => ?_) (fun c_3 => ?_)
    · have hq := pv_neg c_3 hq
      refine lv_aload_n (pc := 22) hx hb dX6_turn_22 rfl (lv_at hl 0 rfl) ?_
      refine va_get (pc := 23) (D := E.1) (ci := 4) (v := .ref (a 1)) (C := RX6) (T := TX6) (N := 8) hx hb hts i_RX6 hown hK hP 0 rfl rfl 0 (Nat.le_of_ble_eq_true rfl) fl_10 (fun _ h9 => h9) rfl dX6_turn_23 ?_
      refine va_get (pc := 26) (D := E.1) (ci := 2) (v := .ref (a 5)) (C := RX4) (T := TX4) (N := 8) hx hb hts i_RX4 hown hK hP 1 rfl rfl 6 (Nat.le_of_ble_eq_true rfl) fl_112 (fun _ h9 => h9) rfl dX6_turn_26 ?_
      refine lv_iload_n (pc := 29) hx hb dX6_turn_29 rfl (lv_at hl 1 rfl) ?_
      obtain ⟨h_4, hq⟩ := pv_gd_some hq
      refine va_iald (pc := 30) (D := E.1) hx hb hK hP 5 0 rfl rfl h_4 dX6_turn_30 ?_
      refine lv_istore_n (pc := 31) (lv' := [(3, .int (w0.1.2.2.2.2.2.2.1 x1.toNatClampNeg)), (0, .ref (a 0)), (1, .int x1), (2, .int x2)]) hx hb dX6_turn_31 rfl hl (Nat.le_of_ble_eq_true rfl) rfl (fun ls hl => ?_)
      refine lv_aload_n (pc := 32) hx hb dX6_turn_32 rfl (lv_at hl 1 rfl) ?_
      refine va_get (pc := 33) (D := E.1) (ci := 4) (v := .ref (a 1)) (C := RX6) (T := TX6) (N := 8) hx hb hts i_RX6 hown hK hP 0 rfl rfl 0 (Nat.le_of_ble_eq_true rfl) fl_10 (fun _ h9 => h9) rfl dX6_turn_33 ?_
      refine va_get (pc := 36) (D := E.1) (ci := 2) (v := .ref (a 5)) (C := RX4) (T := TX4) (N := 8) hx hb hts i_RX4 hown hK hP 1 rfl rfl 6 (Nat.le_of_ble_eq_true rfl) fl_112 (fun _ h9 => h9) rfl dX6_turn_36 ?_
      refine lv_iload_n (pc := 39) hx hb dX6_turn_39 rfl (lv_at hl 2 rfl) ?_
      refine lv_iload_n (pc := 40) hx hb dX6_turn_40 rfl (lv_at hl 3 rfl) ?_
      obtain ⟨h_5, hq⟩ := pv_gd_some hq
      refine va_iast (pc := 41) (D := E.1) hx hb hK hP (hD w0) hS 5 0 rfl rfl h_5 dX6_turn_41 (fun H locs hP _ hS => ?_)
      have hP : va_P E.1 vwCl (pv_wX E a ((w0.1.1, w0.1.2.1, w0.1.2.2.1, w0.1.2.2.2.1, w0.1.2.2.2.2.1, w0.1.2.2.2.2.2.1, (upd w0.1.2.2.2.2.2.2.1 x1.toNatClampNeg x2), w0.1.2.2.2.2.2.2.2), w0.2.1, w0.2.2.1, w0.2.2.2.1, w0.2.2.2.2.1, w0.2.2.2.2.2.1, w0.2.2.2.2.2.2.1, w0.2.2.2.2.2.2.2)) H := hP
      refine lv_iload_n (pc := 42) hx hb dX6_turn_42 rfl (lv_at hl 0 rfl) ?_
      exact pv_riRW (w := fun w : pv_XT => pv_wX E a w) hx hb hr hlk hAe hS hP (Option.some.inj hq) dX6_turn_43
    · have hq := pv_pos c_3 hq
      exact B_15 w0 H locs ls hP hS (lv_sub hl [0] rfl) hq
def m_X6_as_15  (w : pv_XT) : Option (Int32 × pv_XT) :=
  Option.bind (m_X6_finding (-1000000001) w) fun u_2 => (some (u_2.1, u_2.2))
def m_X6_as (x1 : Int32) (x2 : Int32) (w : pv_XT) : Option (Int32 × pv_XT) :=
  if (m_X6_isEnvoy x1 w) = 0 then (m_X6_as_15 w) else (if (m_X6_isKind x2) = 0 then (m_X6_as_15 w) else (pv_gd x1 8 (Option.bind (m_X2_isUnder (w.1.2.2.2.2.2.2.1 x1.toNatClampNeg) x2) fun u_5 => (if u_5 = 0 then (Option.bind (m_X6_finding (-1000000003) w) fun u_8 => (some (u_8.1, u_8.2))) else (pv_gd x1 8 (some ((w.1.2.2.2.2.2.2.2 x1.toNatClampNeg), w)))))))
abbrev r_X6_as : Room := { frames := 2, cells := 0, slots := 0, locals := 43 }
set_option maxHeartbeats 4000000 in
set_option maxRecDepth 100000 in
theorem c_X6_as (l : Launch) (E : pv_E) (a : Nat → Nat) (x1 : Int32) (x2 : Int32) (w0 : pv_XT) (F : Int32 × pv_XT) (hq : m_X6_as x1 x2 w0 = some F) : pv_RW l E yX6_as wsX6_as r_X6_as (pv_wX E a w0) [.ref (a 0), .int x1, .int x2] (some (.int F.1)) (pv_wX E a F.2) := by
  intro sz
  refine pv_mk (by decide) rfl (Nat.le_of_ble_eq_true rfl) ?_
  intro p e s m args below meth c A hx hb hr hml hown hts hlk hAe hP hD0 hA hE hS ls hl
  have hown : s.vm.findClass RX6 = some m.cls := hown
  have hK := hE.1
  have hD : ∀ w : pv_XT, va_D A (pv_wX E a w) := fun w => pv_Dm (ws := pv_wX E a w0) (ws' := pv_wX E a w) rfl hD0
  have hP : va_P E.1 vwCl (pv_wX E a w0) s.heap := hP
  have lc_51 : (Cond.constant RX6 51 (-1000000001)).before args s = true := hts _ (by decide +kernel)
  have fl_10 : (Cond.fieldLink RX6 10 "ProvinceCards" "table" "LProvinceCards$Table;").before args s = true := hts _ (by decide +kernel)
  have fl_112 : (Cond.fieldLink RX6 112 "ProvinceCards$Table" "kinds" "[I").before args s = true := hts _ (by decide +kernel)
  have fl_115 : (Cond.fieldLink RX6 115 "ProvinceCards$Table" "wins" "[I").before args s = true := hts _ (by decide +kernel)
  have lc_127 : (Cond.constant RX6 127 (-1000000003)).before args s = true := hts _ (by decide +kernel)
  have i_RX6 : ∀ w ∈ wsX60, w ∈ wsX6_as := by decide +kernel
  have i_RX4 : ∀ w ∈ wsX40, w ∈ wsX6_as := by decide +kernel
  have hl : lv_has ls 3 [(0, .ref (a 0)), (1, .int x1), (2, .int x2)] := hl
  have B_15 : ∀  (w : pv_XT) (H : Heap) (locs : List Loc) (ls : Array Slot), va_P E.1 vwCl (pv_wX E a w) H → va_S A s.heap H locs → lv_has ls 3 [(0, .ref (a 0))] → m_X6_as_15 w = some F → W p l e r_X6_as s m args below meth c H locs 0 0 (MQ below (pv_Rw E (pv_wX E a w0) sz (some (.int F.1)) ((fun w : pv_XT => pv_wX E a w) F.2)) args s 0 0 A) (F0 m 15 ls []) := by
    intro w H locs ls hP hS hl hq
    refine lv_aload_n (pc := 15) hx hb dX6_as_15 rfl (lv_at hl 0 rfl) ?_
    refine lv_ldc (pc := 16) hx hb hown lc_51 dX6_as_16 ?_
    obtain ⟨u_2, hu_2, hq⟩ := pv_bind hq
    refine pv_vRWf (pc := 18) (rest := []) (st1 := [.int u_2.1]) (ws := pv_wX E a w) [.int (-1000000001)] ⟨hx, hb, hml, hown, hts⟩ hE hA hS hP (hD w) (c_X6_finding l E a (-1000000001) w u_2 hu_2) (cwV 1 hts gX6_as_X6_finding rfl rfl rfl (by decide +kernel) ⟨(Nat.le_of_ble_eq_true rfl), (Nat.le_of_ble_eq_true rfl)⟩) (va_recv hK hP (ci := 4) (q0 := 0) rfl rfl) rfl hl.1 rfl rfl (Nat.le_of_ble_eq_true rfl) dX6_as_18 ⟨Nat.zero_le _, Nat.zero_le _⟩ (fun H locs hP hS => ?_)
    have hP : va_P E.1 vwCl (pv_wX E a u_2.2) H := hP
    exact pv_riRW (w := fun w : pv_XT => pv_wX E a w) hx hb hr hlk hAe hS hP (Option.some.inj hq) dX6_as_21
  suffices M0 : ∀ (H : Heap) (locs : List Loc), va_P E.1 vwCl (pv_wX E a w0) H → va_S A s.heap H locs → W p l e r_X6_as s m args below meth c H locs 0 0 (MQ below (pv_Rw E (pv_wX E a w0) sz (some (.int F.1)) ((fun w : pv_XT => pv_wX E a w) F.2)) args s 0 0 A) (F0 m 0 ls []) from M0 s.heap [] hP hS
  intro H locs hP hS
  refine lv_aload_n (pc := 0) hx hb dX6_as_0 rfl (lv_at hl 0 rfl) ?_
  refine lv_iload_n (pc := 1) hx hb dX6_as_1 rfl (lv_at hl 1 rfl) ?_
  refine pv_vROf (pc := 2) (rest := []) (st1 := [.int (m_X6_isEnvoy x1 w0)]) (ws := pv_wX E a w0) [.int x1] ⟨hx, hb, hml, hown, hts⟩ hE hA hS hP (hD w0) (c_X6_isEnvoy l E a x1 w0) (cwV 1 hts gX6_as_X6_isEnvoy rfl rfl rfl (by decide +kernel) ⟨(Nat.le_of_ble_eq_true rfl), (Nat.le_of_ble_eq_true rfl)⟩) (va_recv hK hP (ci := 4) (q0 := 0) rfl rfl) rfl hl.1 rfl rfl (Nat.le_of_ble_eq_true rfl) dX6_as_2 ⟨Nat.zero_le _, Nat.zero_le _⟩ (fun locs hS => ?_)
  refine lv_if_eq (pc := 5) (tgt := 15) hx hb dX6_as_5 (by decide) (fun c_1 => ?_) (fun c_1 => ?_)
  · have hq := pv_pos c_1 hq
    exact B_15 w0 H locs ls hP hS (lv_sub hl [0] rfl) hq
  · have hq := pv_neg c_1 hq
    refine lv_iload_n (pc := 8) hx hb dX6_as_8 rfl (lv_at hl 2 rfl) ?_
    refine pv_sRO (pc := 9) (rest := []) (st1 := [.int (m_X6_isKind x2)]) (ws := pv_wX E a w0) [.int x2] ⟨hx, hb, hml, hown, hts⟩ hE hA hS hP (hD w0) (c_X6_isKind l E x2) (va_cwS 1 hts gX6_as_X6_isKind rfl rfl rfl (by decide +kernel) ⟨(Nat.le_of_ble_eq_true rfl), (Nat.le_of_ble_eq_true rfl)⟩) [] rfl rfl rfl hl.1 rfl rfl (Nat.le_of_ble_eq_true rfl) dX6_as_9 ⟨Nat.zero_le _, Nat.zero_le _⟩ (fun locs hS => ?_)
    refine lv_if_ne (pc := 12) (tgt := 22) hx hb dX6_as_12 (by decide) (fun c_3 => ?_) (fun c_3 => ?_)
    · have hq := pv_neg c_3 hq
      refine lv_aload_n (pc := 22) hx hb dX6_as_22 rfl (lv_at hl 0 rfl) ?_
      refine va_get (pc := 23) (D := E.1) (ci := 4) (v := .ref (a 1)) (C := RX6) (T := TX6) (N := 8) hx hb hts i_RX6 hown hK hP 0 rfl rfl 0 (Nat.le_of_ble_eq_true rfl) fl_10 (fun _ h9 => h9) rfl dX6_as_23 ?_
      refine va_get (pc := 26) (D := E.1) (ci := 2) (v := .ref (a 5)) (C := RX4) (T := TX4) (N := 8) hx hb hts i_RX4 hown hK hP 1 rfl rfl 6 (Nat.le_of_ble_eq_true rfl) fl_112 (fun _ h9 => h9) rfl dX6_as_26 ?_
      refine lv_iload_n (pc := 29) hx hb dX6_as_29 rfl (lv_at hl 1 rfl) ?_
      obtain ⟨h_4, hq⟩ := pv_gd_some hq
      refine va_iald (pc := 30) (D := E.1) hx hb hK hP 5 0 rfl rfl h_4 dX6_as_30 ?_
      refine lv_iload_n (pc := 31) hx hb dX6_as_31 rfl (lv_at hl 2 rfl) ?_
      obtain ⟨u_5, hu_5, hq⟩ := pv_bind hq
      refine pv_sRO (pc := 32) (rest := []) (st1 := [.int u_5]) (ws := pv_wX E a w0) [.int (w0.1.2.2.2.2.2.2.1 x1.toNatClampNeg), .int x2] ⟨hx, hb, hml, hown, hts⟩ hE hA hS hP (hD w0) (c_X2_isUnder l E (w0.1.2.2.2.2.2.2.1 x1.toNatClampNeg) x2 u_5 hu_5) (va_cwS 2 hts gX6_as_X2_isUnder rfl rfl rfl (by decide +kernel) ⟨(Nat.le_of_ble_eq_true rfl), (Nat.le_of_ble_eq_true rfl)⟩) [] rfl rfl rfl hl.1 rfl rfl (Nat.le_of_ble_eq_true rfl) dX6_as_32 ⟨Nat.zero_le _, Nat.zero_le _⟩ (fun locs hS => ?_)
      refine lv_if_ne (pc := 35) (tgt := 45) hx hb dX6_as_35 (by decide) (fun c_6 => ?_) (fun c_6 => ?_)
      · have hq := pv_neg c_6 hq
        refine lv_aload_n (pc := 45) hx hb dX6_as_45 rfl (lv_at hl 0 rfl) ?_
        refine va_get (pc := 46) (D := E.1) (ci := 4) (v := .ref (a 1)) (C := RX6) (T := TX6) (N := 8) hx hb hts i_RX6 hown hK hP 0 rfl rfl 0 (Nat.le_of_ble_eq_true rfl) fl_10 (fun _ h9 => h9) rfl dX6_as_46 ?_
        refine va_get (pc := 49) (D := E.1) (ci := 2) (v := .ref (a 6)) (C := RX4) (T := TX4) (N := 8) hx hb hts i_RX4 hown hK hP 1 rfl rfl 7 (Nat.le_of_ble_eq_true rfl) fl_115 (fun _ h9 => h9) rfl dX6_as_49 ?_
        refine lv_iload_n (pc := 52) hx hb dX6_as_52 rfl (lv_at hl 1 rfl) ?_
        obtain ⟨h_7, hq⟩ := pv_gd_some hq
        refine va_iald (pc := 53) (D := E.1) hx hb hK hP 6 0 rfl rfl h_7 dX6_as_53 ?_
        exact pv_riRW (w := fun w : pv_XT => pv_wX E a w) hx hb hr hlk hAe hS hP (Option.some.inj hq) dX6_as_54
      · have hq := pv_pos c_6 hq
        refine lv_aload_n (pc := 38) hx hb dX6_as_38 rfl (lv_at hl 0 rfl) ?_
        refine lv_ldc (pc := 39) hx hb hown lc_127 dX6_as_39 ?_
        obtain ⟨u_8, hu_8, hq⟩ := pv_bind hq
        refine pv_vRWf (pc := 41) (rest := []) (st1 := [.int u_8.1]) (ws := pv_wX E a w0) [.int (-1000000003)] ⟨hx, hb, hml, hown, hts⟩ hE hA hS hP (hD w0) (c_X6_finding l E a (-1000000003) w0 u_8 hu_8) (cwV 1 hts gX6_as_X6_finding rfl rfl rfl (by decide +kernel) ⟨(Nat.le_of_ble_eq_true rfl), (Nat.le_of_ble_eq_true rfl)⟩) (va_recv hK hP (ci := 4) (q0 := 0) rfl rfl) rfl hl.1 rfl rfl (Nat.le_of_ble_eq_true rfl) dX6_as_41 ⟨Nat.zero_le _, Nat.zero_le _⟩ (fun H locs hP hS => ?_)
        have hP : va_P E.1 vwCl (pv_wX E a u_8.2) H := hP
        exact pv_riRW (w := fun w : pv_XT => pv_wX E a w) hx hb hr hlk hAe hS hP (Option.some.inj hq) dX6_as_44
    · have hq := pv_pos c_3 hq
      exact B_15 w0 H locs ls hP hS (lv_sub hl [0] rfl) hq
def m_X6_won_19  (w : pv_XT) : Option (Int32 × pv_XT) :=
  Option.bind (m_X6_finding (-1000000001) w) fun u_2 => (some (u_2.1, u_2.2))
def m_X6_won (x1 : Int32) (x2 : Int32) (w : pv_XT) : Option (Int32 × pv_XT) :=
  if (m_X6_isEnvoy x1 w) = 0 then (m_X6_won_19 w) else (if (m_X6_isWithin x2 0 9999) = 0 then (m_X6_won_19 w) else (pv_gd x1 8 (pv_gd x1 8 (some ((w.1.2.2.2.2.2.2.2 x1.toNatClampNeg), ((w.1.1, w.1.2.1, w.1.2.2.1, w.1.2.2.2.1, w.1.2.2.2.2.1, w.1.2.2.2.2.2.1, w.1.2.2.2.2.2.2.1, (upd w.1.2.2.2.2.2.2.2 x1.toNatClampNeg x2)), w.2.1, w.2.2.1, w.2.2.2.1, w.2.2.2.2.1, w.2.2.2.2.2.1, w.2.2.2.2.2.2.1, w.2.2.2.2.2.2.2))))))
abbrev r_X6_won : Room := { frames := 1, cells := 0, slots := 0, locals := 22 }
set_option maxHeartbeats 4000000 in
set_option maxRecDepth 100000 in
theorem c_X6_won (l : Launch) (E : pv_E) (a : Nat → Nat) (x1 : Int32) (x2 : Int32) (w0 : pv_XT) (F : Int32 × pv_XT) (hq : m_X6_won x1 x2 w0 = some F) : pv_RW l E yX6_won wsX6_won r_X6_won (pv_wX E a w0) [.ref (a 0), .int x1, .int x2] (some (.int F.1)) (pv_wX E a F.2) := by
  intro sz
  refine pv_mk (by decide) rfl (Nat.le_of_ble_eq_true rfl) ?_
  intro p e s m args below meth c A hx hb hr hml hown hts hlk hAe hP hD0 hA hE hS ls hl
  have hown : s.vm.findClass RX6 = some m.cls := hown
  have hK := hE.1
  have hD : ∀ w : pv_XT, va_D A (pv_wX E a w) := fun w => pv_Dm (ws := pv_wX E a w0) (ws' := pv_wX E a w) rfl hD0
  have hP : va_P E.1 vwCl (pv_wX E a w0) s.heap := hP
  have lc_51 : (Cond.constant RX6 51 (-1000000001)).before args s = true := hts _ (by decide +kernel)
  have fl_10 : (Cond.fieldLink RX6 10 "ProvinceCards" "table" "LProvinceCards$Table;").before args s = true := hts _ (by decide +kernel)
  have fl_115 : (Cond.fieldLink RX6 115 "ProvinceCards$Table" "wins" "[I").before args s = true := hts _ (by decide +kernel)
  have i_RX6 : ∀ w ∈ wsX60, w ∈ wsX6_won := by decide +kernel
  have i_RX4 : ∀ w ∈ wsX40, w ∈ wsX6_won := by decide +kernel
  have hl : lv_has ls 4 [(0, .ref (a 0)), (1, .int x1), (2, .int x2)] := hl
  have B_19 : ∀  (w : pv_XT) (H : Heap) (locs : List Loc) (ls : Array Slot), va_P E.1 vwCl (pv_wX E a w) H → va_S A s.heap H locs → lv_has ls 4 [(0, .ref (a 0))] → m_X6_won_19 w = some F → W p l e r_X6_won s m args below meth c H locs 0 0 (MQ below (pv_Rw E (pv_wX E a w0) sz (some (.int F.1)) ((fun w : pv_XT => pv_wX E a w) F.2)) args s 0 0 A) (F0 m 19 ls []) := by
    intro w H locs ls hP hS hl hq
    refine lv_aload_n (pc := 19) hx hb dX6_won_19 rfl (lv_at hl 0 rfl) ?_
    refine lv_ldc (pc := 20) hx hb hown lc_51 dX6_won_20 ?_
    obtain ⟨u_2, hu_2, hq⟩ := pv_bind hq
    refine pv_vRWf (pc := 22) (rest := []) (st1 := [.int u_2.1]) (ws := pv_wX E a w) [.int (-1000000001)] ⟨hx, hb, hml, hown, hts⟩ hE hA hS hP (hD w) (c_X6_finding l E a (-1000000001) w u_2 hu_2) (cwV 1 hts gX6_won_X6_finding rfl rfl rfl (by decide +kernel) ⟨(Nat.le_of_ble_eq_true rfl), (Nat.le_of_ble_eq_true rfl)⟩) (va_recv hK hP (ci := 4) (q0 := 0) rfl rfl) rfl hl.1 rfl rfl (Nat.le_of_ble_eq_true rfl) dX6_won_22 ⟨Nat.zero_le _, Nat.zero_le _⟩ (fun H locs hP hS => ?_)
    have hP : va_P E.1 vwCl (pv_wX E a u_2.2) H := hP
    exact pv_riRW (w := fun w : pv_XT => pv_wX E a w) hx hb hr hlk hAe hS hP (Option.some.inj hq) dX6_won_25
  suffices M0 : ∀ (H : Heap) (locs : List Loc), va_P E.1 vwCl (pv_wX E a w0) H → va_S A s.heap H locs → W p l e r_X6_won s m args below meth c H locs 0 0 (MQ below (pv_Rw E (pv_wX E a w0) sz (some (.int F.1)) ((fun w : pv_XT => pv_wX E a w) F.2)) args s 0 0 A) (F0 m 0 ls []) from M0 s.heap [] hP hS
  intro H locs hP hS
  refine lv_aload_n (pc := 0) hx hb dX6_won_0 rfl (lv_at hl 0 rfl) ?_
  refine lv_iload_n (pc := 1) hx hb dX6_won_1 rfl (lv_at hl 1 rfl) ?_
  refine pv_vROf (pc := 2) (rest := []) (st1 := [.int (m_X6_isEnvoy x1 w0)]) (ws := pv_wX E a w0) [.int x1] ⟨hx, hb, hml, hown, hts⟩ hE hA hS hP (hD w0) (c_X6_isEnvoy l E a x1 w0) (cwV 1 hts gX6_won_X6_isEnvoy rfl rfl rfl (by decide +kernel) ⟨(Nat.le_of_ble_eq_true rfl), (Nat.le_of_ble_eq_true rfl)⟩) (va_recv hK hP (ci := 4) (q0 := 0) rfl rfl) rfl hl.1 rfl rfl (Nat.le_of_ble_eq_true rfl) dX6_won_2 ⟨Nat.zero_le _, Nat.zero_le _⟩ (fun locs hS => ?_)
  refine lv_if_eq (pc := 5) (tgt := 19) hx hb dX6_won_5 (by decide) (fun c_1 => ?_) (fun c_1 => ?_)
  · have hq := pv_pos c_1 hq
    exact B_19 w0 H locs ls hP hS (lv_sub hl [0] rfl) hq
  · have hq := pv_neg c_1 hq
    refine lv_iload_n (pc := 8) hx hb dX6_won_8 rfl (lv_at hl 2 rfl) ?_
    refine lv_iconst (pc := 9) (v := 0) hx hb dX6_won_9 (by decide) ?_
    refine lv_sipush (pc := 10) (v := 9999) hx hb dX6_won_10 (by decide) ?_
    refine pv_sRO (pc := 13) (rest := []) (st1 := [.int (m_X6_isWithin x2 0 9999)]) (ws := pv_wX E a w0) [.int x2, .int 0, .int 9999] ⟨hx, hb, hml, hown, hts⟩ hE hA hS hP (hD w0) (c_X6_isWithin l E x2 0 9999) (va_cwS 3 hts gX6_won_X6_isWithin rfl rfl rfl (by decide +kernel) ⟨(Nat.le_of_ble_eq_true rfl), (Nat.le_of_ble_eq_true rfl)⟩) [] rfl rfl rfl hl.1 rfl rfl (Nat.le_of_ble_eq_true rfl) dX6_won_13 ⟨Nat.zero_le _, Nat.zero_le _⟩ (fun locs hS => ?_)
    refine lv_if_ne (pc := 16) (tgt := 26) hx hb dX6_won_16 (by decide) (fun c_3 => ?_) (fun c_3 => ?_)
    · have hq := pv_neg c_3 hq
      refine lv_aload_n (pc := 26) hx hb dX6_won_26 rfl (lv_at hl 0 rfl) ?_
      refine va_get (pc := 27) (D := E.1) (ci := 4) (v := .ref (a 1)) (C := RX6) (T := TX6) (N := 8) hx hb hts i_RX6 hown hK hP 0 rfl rfl 0 (Nat.le_of_ble_eq_true rfl) fl_10 (fun _ h9 => h9) rfl dX6_won_27 ?_
      refine va_get (pc := 30) (D := E.1) (ci := 2) (v := .ref (a 6)) (C := RX4) (T := TX4) (N := 8) hx hb hts i_RX4 hown hK hP 1 rfl rfl 7 (Nat.le_of_ble_eq_true rfl) fl_115 (fun _ h9 => h9) rfl dX6_won_30 ?_
      refine lv_iload_n (pc := 33) hx hb dX6_won_33 rfl (lv_at hl 1 rfl) ?_
      obtain ⟨h_4, hq⟩ := pv_gd_some hq
      refine va_iald (pc := 34) (D := E.1) hx hb hK hP 6 0 rfl rfl h_4 dX6_won_34 ?_
      refine lv_istore_n (pc := 35) (lv' := [(3, .int (w0.1.2.2.2.2.2.2.2 x1.toNatClampNeg)), (0, .ref (a 0)), (1, .int x1), (2, .int x2)]) hx hb dX6_won_35 rfl hl (Nat.le_of_ble_eq_true rfl) rfl (fun ls hl => ?_)
      refine lv_aload_n (pc := 36) hx hb dX6_won_36 rfl (lv_at hl 1 rfl) ?_
      refine va_get (pc := 37) (D := E.1) (ci := 4) (v := .ref (a 1)) (C := RX6) (T := TX6) (N := 8) hx hb hts i_RX6 hown hK hP 0 rfl rfl 0 (Nat.le_of_ble_eq_true rfl) fl_10 (fun _ h9 => h9) rfl dX6_won_37 ?_
      refine va_get (pc := 40) (D := E.1) (ci := 2) (v := .ref (a 6)) (C := RX4) (T := TX4) (N := 8) hx hb hts i_RX4 hown hK hP 1 rfl rfl 7 (Nat.le_of_ble_eq_true rfl) fl_115 (fun _ h9 => h9) rfl dX6_won_40 ?_
      refine lv_iload_n (pc := 43) hx hb dX6_won_43 rfl (lv_at hl 2 rfl) ?_
      refine lv_iload_n (pc := 44) hx hb dX6_won_44 rfl (lv_at hl 3 rfl) ?_
      obtain ⟨h_5, hq⟩ := pv_gd_some hq
      refine va_iast (pc := 45) (D := E.1) hx hb hK hP (hD w0) hS 6 0 rfl rfl h_5 dX6_won_45 (fun H locs hP _ hS => ?_)
      have hP : va_P E.1 vwCl (pv_wX E a ((w0.1.1, w0.1.2.1, w0.1.2.2.1, w0.1.2.2.2.1, w0.1.2.2.2.2.1, w0.1.2.2.2.2.2.1, w0.1.2.2.2.2.2.2.1, (upd w0.1.2.2.2.2.2.2.2 x1.toNatClampNeg x2)), w0.2.1, w0.2.2.1, w0.2.2.2.1, w0.2.2.2.2.1, w0.2.2.2.2.2.1, w0.2.2.2.2.2.2.1, w0.2.2.2.2.2.2.2)) H := hP
      refine lv_iload_n (pc := 46) hx hb dX6_won_46 rfl (lv_at hl 0 rfl) ?_
      exact pv_riRW (w := fun w : pv_XT => pv_wX E a w) hx hb hr hlk hAe hS hP (Option.some.inj hq) dX6_won_47
    · have hq := pv_pos c_3 hq
      exact B_19 w0 H locs ls hP hS (lv_sub hl [0] rfl) hq
def m_X6_send_20  (w : pv_XT) : Option (Int32 × pv_XT) :=
  Option.bind (m_X6_finding (-1000000001) w) fun u_2 => (some (u_2.1, u_2.2))
def m_X6_send_27 (x1 : Int32) (x2 : Int32) (w : pv_XT) : Option (Int32 × pv_XT) :=
  pv_gd x1 2 (pv_gd x1 2 (some ((w.1.2.2.2.2.2.1 x1.toNatClampNeg), ((w.1.1, w.1.2.1, w.1.2.2.1, w.1.2.2.2.1, w.1.2.2.2.2.1, (upd w.1.2.2.2.2.2.1 x1.toNatClampNeg x2), w.1.2.2.2.2.2.2.1, w.1.2.2.2.2.2.2.2), w.2.1, w.2.2.1, w.2.2.2.1, w.2.2.2.2.1, w.2.2.2.2.2.1, w.2.2.2.2.2.2.1, w.2.2.2.2.2.2.2))))
def m_X6_send (x1 : Int32) (x2 : Int32) (w : pv_XT) : Option (Int32 × pv_XT) :=
  if (m_X6_isState x1) = 0 then (m_X6_send_20 w) else (if x2 = (-1) then (m_X6_send_27 x1 x2 w) else (if (m_X6_isEnvoy x2 w) = 0 then (m_X6_send_20 w) else (m_X6_send_27 x1 x2 w)))
abbrev r_X6_send : Room := { frames := 1, cells := 0, slots := 0, locals := 22 }
set_option maxHeartbeats 4000000 in
set_option maxRecDepth 100000 in
theorem c_X6_send (l : Launch) (E : pv_E) (a : Nat → Nat) (x1 : Int32) (x2 : Int32) (w0 : pv_XT) (F : Int32 × pv_XT) (hq : m_X6_send x1 x2 w0 = some F) : pv_RW l E yX6_send wsX6_send r_X6_send (pv_wX E a w0) [.ref (a 0), .int x1, .int x2] (some (.int F.1)) (pv_wX E a F.2) := by
  intro sz
  refine pv_mk (by decide) rfl (Nat.le_of_ble_eq_true rfl) ?_
  intro p e s m args below meth c A hx hb hr hml hown hts hlk hAe hP hD0 hA hE hS ls hl
  have hown : s.vm.findClass RX6 = some m.cls := hown
  have hK := hE.1
  have hD : ∀ w : pv_XT, va_D A (pv_wX E a w) := fun w => pv_Dm (ws := pv_wX E a w0) (ws' := pv_wX E a w) rfl hD0
  have hP : va_P E.1 vwCl (pv_wX E a w0) s.heap := hP
  have lc_51 : (Cond.constant RX6 51 (-1000000001)).before args s = true := hts _ (by decide +kernel)
  have fl_10 : (Cond.fieldLink RX6 10 "ProvinceCards" "table" "LProvinceCards$Table;").before args s = true := hts _ (by decide +kernel)
  have fl_90 : (Cond.fieldLink RX6 90 "ProvinceCards$Table" "sent" "[I").before args s = true := hts _ (by decide +kernel)
  have i_RX6 : ∀ w ∈ wsX60, w ∈ wsX6_send := by decide +kernel
  have i_RX4 : ∀ w ∈ wsX40, w ∈ wsX6_send := by decide +kernel
  have hl : lv_has ls 4 [(0, .ref (a 0)), (1, .int x1), (2, .int x2)] := hl
  have B_20 : ∀  (w : pv_XT) (H : Heap) (locs : List Loc) (ls : Array Slot), va_P E.1 vwCl (pv_wX E a w) H → va_S A s.heap H locs → lv_has ls 4 [(0, .ref (a 0))] → m_X6_send_20 w = some F → W p l e r_X6_send s m args below meth c H locs 0 0 (MQ below (pv_Rw E (pv_wX E a w0) sz (some (.int F.1)) ((fun w : pv_XT => pv_wX E a w) F.2)) args s 0 0 A) (F0 m 20 ls []) := by
    intro w H locs ls hP hS hl hq
    refine lv_aload_n (pc := 20) hx hb dX6_send_20 rfl (lv_at hl 0 rfl) ?_
    refine lv_ldc (pc := 21) hx hb hown lc_51 dX6_send_21 ?_
    obtain ⟨u_2, hu_2, hq⟩ := pv_bind hq
    refine pv_vRWf (pc := 23) (rest := []) (st1 := [.int u_2.1]) (ws := pv_wX E a w) [.int (-1000000001)] ⟨hx, hb, hml, hown, hts⟩ hE hA hS hP (hD w) (c_X6_finding l E a (-1000000001) w u_2 hu_2) (cwV 1 hts gX6_send_X6_finding rfl rfl rfl (by decide +kernel) ⟨(Nat.le_of_ble_eq_true rfl), (Nat.le_of_ble_eq_true rfl)⟩) (va_recv hK hP (ci := 4) (q0 := 0) rfl rfl) rfl hl.1 rfl rfl (Nat.le_of_ble_eq_true rfl) dX6_send_23 ⟨Nat.zero_le _, Nat.zero_le _⟩ (fun H locs hP hS => ?_)
    have hP : va_P E.1 vwCl (pv_wX E a u_2.2) H := hP
    exact pv_riRW (w := fun w : pv_XT => pv_wX E a w) hx hb hr hlk hAe hS hP (Option.some.inj hq) dX6_send_26
  have B_27 : ∀ (x1 : Int32) (x2 : Int32) (w : pv_XT) (H : Heap) (locs : List Loc) (ls : Array Slot), va_P E.1 vwCl (pv_wX E a w) H → va_S A s.heap H locs → lv_has ls 4 [(0, .ref (a 0)), (1, .int x1), (2, .int x2)] → m_X6_send_27 x1 x2 w = some F → W p l e r_X6_send s m args below meth c H locs 0 0 (MQ below (pv_Rw E (pv_wX E a w0) sz (some (.int F.1)) ((fun w : pv_XT => pv_wX E a w) F.2)) args s 0 0 A) (F0 m 27 ls []) := by
    intro x1 x2 w H locs ls hP hS hl hq
    refine lv_aload_n (pc := 27) hx hb dX6_send_27 rfl (lv_at hl 0 rfl) ?_
    refine va_get (pc := 28) (D := E.1) (ci := 4) (v := .ref (a 1)) (C := RX6) (T := TX6) (N := 8) hx hb hts i_RX6 hown hK hP 0 rfl rfl 0 (Nat.le_of_ble_eq_true rfl) fl_10 (fun _ h9 => h9) rfl dX6_send_28 ?_
    refine va_get (pc := 31) (D := E.1) (ci := 2) (v := .ref (a 4)) (C := RX4) (T := TX4) (N := 8) hx hb hts i_RX4 hown hK hP 1 rfl rfl 5 (Nat.le_of_ble_eq_true rfl) fl_90 (fun _ h9 => h9) rfl dX6_send_31 ?_
    refine lv_iload_n (pc := 34) hx hb dX6_send_34 rfl (lv_at hl 1 rfl) ?_
    obtain ⟨h_4, hq⟩ := pv_gd_some hq
    refine va_iald (pc := 35) (D := E.1) hx hb hK hP 4 0 rfl rfl h_4 dX6_send_35 ?_
    refine lv_istore_n (pc := 36) (lv' := [(3, .int (w.1.2.2.2.2.2.1 x1.toNatClampNeg)), (0, .ref (a 0)), (1, .int x1), (2, .int x2)]) hx hb dX6_send_36 rfl hl (Nat.le_of_ble_eq_true rfl) rfl (fun ls hl => ?_)
    refine lv_aload_n (pc := 37) hx hb dX6_send_37 rfl (lv_at hl 1 rfl) ?_
    refine va_get (pc := 38) (D := E.1) (ci := 4) (v := .ref (a 1)) (C := RX6) (T := TX6) (N := 8) hx hb hts i_RX6 hown hK hP 0 rfl rfl 0 (Nat.le_of_ble_eq_true rfl) fl_10 (fun _ h9 => h9) rfl dX6_send_38 ?_
    refine va_get (pc := 41) (D := E.1) (ci := 2) (v := .ref (a 4)) (C := RX4) (T := TX4) (N := 8) hx hb hts i_RX4 hown hK hP 1 rfl rfl 5 (Nat.le_of_ble_eq_true rfl) fl_90 (fun _ h9 => h9) rfl dX6_send_41 ?_
    refine lv_iload_n (pc := 44) hx hb dX6_send_44 rfl (lv_at hl 2 rfl) ?_
    refine lv_iload_n (pc := 45) hx hb dX6_send_45 rfl (lv_at hl 3 rfl) ?_
    obtain ⟨h_5, hq⟩ := pv_gd_some hq
    refine va_iast (pc := 46) (D := E.1) hx hb hK hP (hD w) hS 4 0 rfl rfl h_5 dX6_send_46 (fun H locs hP _ hS => ?_)
    have hP : va_P E.1 vwCl (pv_wX E a ((w.1.1, w.1.2.1, w.1.2.2.1, w.1.2.2.2.1, w.1.2.2.2.2.1, (upd w.1.2.2.2.2.2.1 x1.toNatClampNeg x2), w.1.2.2.2.2.2.2.1, w.1.2.2.2.2.2.2.2), w.2.1, w.2.2.1, w.2.2.2.1, w.2.2.2.2.1, w.2.2.2.2.2.1, w.2.2.2.2.2.2.1, w.2.2.2.2.2.2.2)) H := hP
    refine lv_iload_n (pc := 47) hx hb dX6_send_47 rfl (lv_at hl 0 rfl) ?_
    exact pv_riRW (w := fun w : pv_XT => pv_wX E a w) hx hb hr hlk hAe hS hP (Option.some.inj hq) dX6_send_48
  suffices M0 : ∀ (H : Heap) (locs : List Loc), va_P E.1 vwCl (pv_wX E a w0) H → va_S A s.heap H locs → W p l e r_X6_send s m args below meth c H locs 0 0 (MQ below (pv_Rw E (pv_wX E a w0) sz (some (.int F.1)) ((fun w : pv_XT => pv_wX E a w) F.2)) args s 0 0 A) (F0 m 0 ls []) from M0 s.heap [] hP hS
  intro H locs hP hS
  refine lv_iload_n (pc := 0) hx hb dX6_send_0 rfl (lv_at hl 1 rfl) ?_
  refine pv_sRO (pc := 1) (rest := []) (st1 := [.int (m_X6_isState x1)]) (ws := pv_wX E a w0) [.int x1] ⟨hx, hb, hml, hown, hts⟩ hE hA hS hP (hD w0) (c_X6_isState l E x1) (va_cwS 1 hts gX6_send_X6_isState rfl rfl rfl (by decide +kernel) ⟨(Nat.le_of_ble_eq_true rfl), (Nat.le_of_ble_eq_true rfl)⟩) [] rfl rfl rfl hl.1 rfl rfl (Nat.le_of_ble_eq_true rfl) dX6_send_1 ⟨Nat.zero_le _, Nat.zero_le _⟩ (fun locs hS => ?_)
  refine lv_if_eq (pc := 4) (tgt := 20) hx hb dX6_send_4 (by decide) (fun c_1 => ?_) (fun c_1 => ?_)
  · have hq := pv_pos c_1 hq
    exact B_20 w0 H locs ls hP hS (lv_sub hl [0] rfl) hq
  · have hq := pv_neg c_1 hq
    refine lv_iload_n (pc := 7) hx hb dX6_send_7 rfl (lv_at hl 2 rfl) ?_
    refine lv_iconst (pc := 8) (v := (-1)) hx hb dX6_send_8 (by decide) ?_
    refine lv_icmp_eq (pc := 9) (tgt := 27) hx hb dX6_send_9 (by decide) (fun c_3 => ?_) (fun c_3 => ?_)
    · have hq := pv_pos c_3 hq
      exact B_27 x1 x2 w0 H locs ls hP hS (lv_sub hl [0, 1, 2] rfl) hq
    · have hq := pv_neg c_3 hq
      refine lv_aload_n (pc := 12) hx hb dX6_send_12 rfl (lv_at hl 0 rfl) ?_
      refine lv_iload_n (pc := 13) hx hb dX6_send_13 rfl (lv_at hl 2 rfl) ?_
      refine pv_vROf (pc := 14) (rest := []) (st1 := [.int (m_X6_isEnvoy x2 w0)]) (ws := pv_wX E a w0) [.int x2] ⟨hx, hb, hml, hown, hts⟩ hE hA hS hP (hD w0) (c_X6_isEnvoy l E a x2 w0) (cwV 1 hts gX6_send_X6_isEnvoy rfl rfl rfl (by decide +kernel) ⟨(Nat.le_of_ble_eq_true rfl), (Nat.le_of_ble_eq_true rfl)⟩) (va_recv hK hP (ci := 4) (q0 := 0) rfl rfl) rfl hl.1 rfl rfl (Nat.le_of_ble_eq_true rfl) dX6_send_14 ⟨Nat.zero_le _, Nat.zero_le _⟩ (fun locs hS => ?_)
      refine lv_if_ne (pc := 17) (tgt := 27) hx hb dX6_send_17 (by decide) (fun c_6 => ?_) (fun c_6 => ?_)
      · have hq := pv_neg c_6 hq
        exact B_27 x1 x2 w0 H locs ls hP hS (lv_sub hl [0, 1, 2] rfl) hq
      · have hq := pv_pos c_6 hq
        exact B_20 w0 H locs ls hP hS (lv_sub hl [0] rfl) hq
def m_X6_leads_15  (w : pv_XT) : Option (Int32 × pv_XT) :=
  Option.bind (m_X6_finding (-1000000001) w) fun u_2 => (some (u_2.1, u_2.2))
def m_X6_leads (x1 : Int32) (x2 : Int32) (w : pv_XT) : Option (Int32 × pv_XT) :=
  if (m_X6_isEnvoy x1 w) = 0 then (m_X6_leads_15 w) else (if (m_X6_isState x2) = 0 then (m_X6_leads_15 w) else (pv_gd x1 8 (Option.bind (m_X4_hand x2 w.1) fun u_5 => (Option.bind (m_X2_lead (w.1.2.2.2.2.2.2.1 x1.toNatClampNeg) u_5 (m_X4_trump w.1)) fun u_6 => (some (u_6, w))))))
abbrev r_X6_leads : Room := { frames := 3, cells := 0, slots := 0, locals := 67 }
set_option maxHeartbeats 4000000 in
set_option maxRecDepth 100000 in
theorem c_X6_leads (l : Launch) (E : pv_E) (a : Nat → Nat) (x1 : Int32) (x2 : Int32) (w0 : pv_XT) (F : Int32 × pv_XT) (hq : m_X6_leads x1 x2 w0 = some F) : pv_RW l E yX6_leads wsX6_leads r_X6_leads (pv_wX E a w0) [.ref (a 0), .int x1, .int x2] (some (.int F.1)) (pv_wX E a F.2) := by
  intro sz
  refine pv_mk (by decide) rfl (Nat.le_of_ble_eq_true rfl) ?_
  intro p e s m args below meth c A hx hb hr hml hown hts hlk hAe hP hD0 hA hE hS ls hl
  have hown : s.vm.findClass RX6 = some m.cls := hown
  have hK := hE.1
  have hD : ∀ w : pv_XT, va_D A (pv_wX E a w) := fun w => pv_Dm (ws := pv_wX E a w0) (ws' := pv_wX E a w) rfl hD0
  have hP : va_P E.1 vwCl (pv_wX E a w0) s.heap := hP
  have lc_51 : (Cond.constant RX6 51 (-1000000001)).before args s = true := hts _ (by decide +kernel)
  have fl_10 : (Cond.fieldLink RX6 10 "ProvinceCards" "table" "LProvinceCards$Table;").before args s = true := hts _ (by decide +kernel)
  have fl_112 : (Cond.fieldLink RX6 112 "ProvinceCards$Table" "kinds" "[I").before args s = true := hts _ (by decide +kernel)
  have i_RX6 : ∀ w ∈ wsX60, w ∈ wsX6_leads := by decide +kernel
  have i_RX4 : ∀ w ∈ wsX40, w ∈ wsX6_leads := by decide +kernel
  have hl : lv_has ls 3 [(0, .ref (a 0)), (1, .int x1), (2, .int x2)] := hl
  have B_15 : ∀  (w : pv_XT) (H : Heap) (locs : List Loc) (ls : Array Slot), va_P E.1 vwCl (pv_wX E a w) H → va_S A s.heap H locs → lv_has ls 3 [(0, .ref (a 0))] → m_X6_leads_15 w = some F → W p l e r_X6_leads s m args below meth c H locs 0 0 (MQ below (pv_Rw E (pv_wX E a w0) sz (some (.int F.1)) ((fun w : pv_XT => pv_wX E a w) F.2)) args s 0 0 A) (F0 m 15 ls []) := by
    intro w H locs ls hP hS hl hq
    refine lv_aload_n (pc := 15) hx hb dX6_leads_15 rfl (lv_at hl 0 rfl) ?_
    refine lv_ldc (pc := 16) hx hb hown lc_51 dX6_leads_16 ?_
    obtain ⟨u_2, hu_2, hq⟩ := pv_bind hq
    refine pv_vRWf (pc := 18) (rest := []) (st1 := [.int u_2.1]) (ws := pv_wX E a w) [.int (-1000000001)] ⟨hx, hb, hml, hown, hts⟩ hE hA hS hP (hD w) (c_X6_finding l E a (-1000000001) w u_2 hu_2) (cwV 1 hts gX6_leads_X6_finding rfl rfl rfl (by decide +kernel) ⟨(Nat.le_of_ble_eq_true rfl), (Nat.le_of_ble_eq_true rfl)⟩) (va_recv hK hP (ci := 4) (q0 := 0) rfl rfl) rfl hl.1 rfl rfl (Nat.le_of_ble_eq_true rfl) dX6_leads_18 ⟨Nat.zero_le _, Nat.zero_le _⟩ (fun H locs hP hS => ?_)
    have hP : va_P E.1 vwCl (pv_wX E a u_2.2) H := hP
    exact pv_riRW (w := fun w : pv_XT => pv_wX E a w) hx hb hr hlk hAe hS hP (Option.some.inj hq) dX6_leads_21
  suffices M0 : ∀ (H : Heap) (locs : List Loc), va_P E.1 vwCl (pv_wX E a w0) H → va_S A s.heap H locs → W p l e r_X6_leads s m args below meth c H locs 0 0 (MQ below (pv_Rw E (pv_wX E a w0) sz (some (.int F.1)) ((fun w : pv_XT => pv_wX E a w) F.2)) args s 0 0 A) (F0 m 0 ls []) from M0 s.heap [] hP hS
  intro H locs hP hS
  refine lv_aload_n (pc := 0) hx hb dX6_leads_0 rfl (lv_at hl 0 rfl) ?_
  refine lv_iload_n (pc := 1) hx hb dX6_leads_1 rfl (lv_at hl 1 rfl) ?_
  refine pv_vROf (pc := 2) (rest := []) (st1 := [.int (m_X6_isEnvoy x1 w0)]) (ws := pv_wX E a w0) [.int x1] ⟨hx, hb, hml, hown, hts⟩ hE hA hS hP (hD w0) (c_X6_isEnvoy l E a x1 w0) (cwV 1 hts gX6_leads_X6_isEnvoy rfl rfl rfl (by decide +kernel) ⟨(Nat.le_of_ble_eq_true rfl), (Nat.le_of_ble_eq_true rfl)⟩) (va_recv hK hP (ci := 4) (q0 := 0) rfl rfl) rfl hl.1 rfl rfl (Nat.le_of_ble_eq_true rfl) dX6_leads_2 ⟨Nat.zero_le _, Nat.zero_le _⟩ (fun locs hS => ?_)
  refine lv_if_eq (pc := 5) (tgt := 15) hx hb dX6_leads_5 (by decide) (fun c_1 => ?_) (fun c_1 => ?_)
  · have hq := pv_pos c_1 hq
    exact B_15 w0 H locs ls hP hS (lv_sub hl [0] rfl) hq
  · have hq := pv_neg c_1 hq
    refine lv_iload_n (pc := 8) hx hb dX6_leads_8 rfl (lv_at hl 2 rfl) ?_
    refine pv_sRO (pc := 9) (rest := []) (st1 := [.int (m_X6_isState x2)]) (ws := pv_wX E a w0) [.int x2] ⟨hx, hb, hml, hown, hts⟩ hE hA hS hP (hD w0) (c_X6_isState l E x2) (va_cwS 1 hts gX6_leads_X6_isState rfl rfl rfl (by decide +kernel) ⟨(Nat.le_of_ble_eq_true rfl), (Nat.le_of_ble_eq_true rfl)⟩) [] rfl rfl rfl hl.1 rfl rfl (Nat.le_of_ble_eq_true rfl) dX6_leads_9 ⟨Nat.zero_le _, Nat.zero_le _⟩ (fun locs hS => ?_)
    refine lv_if_ne (pc := 12) (tgt := 22) hx hb dX6_leads_12 (by decide) (fun c_3 => ?_) (fun c_3 => ?_)
    · have hq := pv_neg c_3 hq
      refine lv_aload_n (pc := 22) hx hb dX6_leads_22 rfl (lv_at hl 0 rfl) ?_
      refine va_get (pc := 23) (D := E.1) (ci := 4) (v := .ref (a 1)) (C := RX6) (T := TX6) (N := 8) hx hb hts i_RX6 hown hK hP 0 rfl rfl 0 (Nat.le_of_ble_eq_true rfl) fl_10 (fun _ h9 => h9) rfl dX6_leads_23 ?_
      refine va_get (pc := 26) (D := E.1) (ci := 2) (v := .ref (a 5)) (C := RX4) (T := TX4) (N := 8) hx hb hts i_RX4 hown hK hP 1 rfl rfl 6 (Nat.le_of_ble_eq_true rfl) fl_112 (fun _ h9 => h9) rfl dX6_leads_26 ?_
      refine lv_iload_n (pc := 29) hx hb dX6_leads_29 rfl (lv_at hl 1 rfl) ?_
      obtain ⟨h_4, hq⟩ := pv_gd_some hq
      refine va_iald (pc := 30) (D := E.1) hx hb hK hP 5 0 rfl rfl h_4 dX6_leads_30 ?_
      refine lv_aload_n (pc := 31) hx hb dX6_leads_31 rfl (lv_at hl 0 rfl) ?_
      refine va_get (pc := 32) (D := E.1) (ci := 4) (v := .ref (a 1)) (C := RX6) (T := TX6) (N := 8) hx hb hts i_RX6 hown hK hP 0 rfl rfl 0 (Nat.le_of_ble_eq_true rfl) fl_10 (fun _ h9 => h9) rfl dX6_leads_32 ?_
      refine lv_iload_n (pc := 35) hx hb dX6_leads_35 rfl (lv_at hl 2 rfl) ?_
      obtain ⟨u_5, hu_5, hq⟩ := pv_bind hq
      refine pv_vRO (pc := 36) (rest := [.int (w0.1.2.2.2.2.2.2.1 x1.toNatClampNeg)]) (st1 := [.int u_5, .int (w0.1.2.2.2.2.2.2.1 x1.toNatClampNeg)]) (ws := pv_wX E a w0) [.int x2] ⟨hx, hb, hml, hown, hts⟩ hE hA hS hP (hD w0) (c_X4_hand l E (a 1) (a 2) (a 3) (a 4) (a 5) (a 6) x2 w0.1 u_5 hu_5) (cwV 1 hts gX6_leads_X4_hand rfl rfl rfl (by decide +kernel) ⟨(Nat.le_of_ble_eq_true rfl), (Nat.le_of_ble_eq_true rfl)⟩) (va_recv hK hP (ci := 2) (q0 := 1) rfl rfl) [1, 2, 3, 4, 5, 6] rfl rfl rfl hl.1 rfl rfl (Nat.le_of_ble_eq_true rfl) dX6_leads_36 ⟨Nat.zero_le _, Nat.zero_le _⟩ (fun locs hS => ?_)
      refine lv_aload_n (pc := 39) hx hb dX6_leads_39 rfl (lv_at hl 0 rfl) ?_
      refine va_get (pc := 40) (D := E.1) (ci := 4) (v := .ref (a 1)) (C := RX6) (T := TX6) (N := 8) hx hb hts i_RX6 hown hK hP 0 rfl rfl 0 (Nat.le_of_ble_eq_true rfl) fl_10 (fun _ h9 => h9) rfl dX6_leads_40 ?_
      refine pv_vRO (pc := 43) (rest := [.int u_5, .int (w0.1.2.2.2.2.2.2.1 x1.toNatClampNeg)]) (st1 := [.int (m_X4_trump w0.1), .int u_5, .int (w0.1.2.2.2.2.2.2.1 x1.toNatClampNeg)]) (ws := pv_wX E a w0) [] ⟨hx, hb, hml, hown, hts⟩ hE hA hS hP (hD w0) (c_X4_trump l E (a 1) (a 2) (a 3) (a 4) (a 5) (a 6) w0.1) (cwV 0 hts gX6_leads_X4_trump rfl rfl rfl (by decide +kernel) ⟨(Nat.le_of_ble_eq_true rfl), (Nat.le_of_ble_eq_true rfl)⟩) (va_recv hK hP (ci := 2) (q0 := 1) rfl rfl) [1, 2, 3, 4, 5, 6] rfl rfl rfl hl.1 rfl rfl (Nat.le_of_ble_eq_true rfl) dX6_leads_43 ⟨Nat.zero_le _, Nat.zero_le _⟩ (fun locs hS => ?_)
      obtain ⟨u_6, hu_6, hq⟩ := pv_bind hq
      refine pv_sRO (pc := 46) (rest := []) (st1 := [.int u_6]) (ws := pv_wX E a w0) [.int (w0.1.2.2.2.2.2.2.1 x1.toNatClampNeg), .int u_5, .int (m_X4_trump w0.1)] ⟨hx, hb, hml, hown, hts⟩ hE hA hS hP (hD w0) (c_X2_lead l E (w0.1.2.2.2.2.2.2.1 x1.toNatClampNeg) u_5 (m_X4_trump w0.1) u_6 hu_6) (va_cwS 3 hts gX6_leads_X2_lead rfl rfl rfl (by decide +kernel) ⟨(Nat.le_of_ble_eq_true rfl), (Nat.le_of_ble_eq_true rfl)⟩) [] rfl rfl rfl hl.1 rfl rfl (Nat.le_of_ble_eq_true rfl) dX6_leads_46 ⟨Nat.zero_le _, Nat.zero_le _⟩ (fun locs hS => ?_)
      exact pv_riRW (w := fun w : pv_XT => pv_wX E a w) hx hb hr hlk hAe hS hP (Option.some.inj hq) dX6_leads_49
    · have hq := pv_pos c_3 hq
      exact B_15 w0 H locs ls hP hS (lv_sub hl [0] rfl) hq
def m_X6_follows_25  (w : pv_XT) : Option (Int32 × pv_XT) :=
  Option.bind (m_X6_finding (-1000000001) w) fun u_2 => (some (u_2.1, u_2.2))
def m_X6_follows (x1 : Int32) (x2 : Int32) (x3 : Int32) (w : pv_XT) : Option (Int32 × pv_XT) :=
  if (m_X6_isEnvoy x1 w) = 0 then (m_X6_follows_25 w) else (if (m_X6_isState x2) = 0 then (m_X6_follows_25 w) else (if (m_X6_isWithin x3 0 31) = 0 then (m_X6_follows_25 w) else (pv_gd x1 8 (Option.bind (m_X4_hand x2 w.1) fun u_6 => (Option.bind (m_X2_mayPlay (w.1.2.2.2.2.2.2.1 x1.toNatClampNeg) u_6 x3 w.1.1) fun u_7 => (Option.bind (m_X2_follow (w.1.2.2.2.2.2.2.1 x1.toNatClampNeg) u_7 x3 (m_X4_trump w.1)) fun u_8 => (some (u_8, w))))))))
abbrev r_X6_follows : Room := { frames := 3, cells := 0, slots := 0, locals := 69 }
set_option maxHeartbeats 4000000 in
set_option maxRecDepth 100000 in
theorem c_X6_follows (l : Launch) (E : pv_E) (a : Nat → Nat) (x1 : Int32) (x2 : Int32) (x3 : Int32) (w0 : pv_XT) (F : Int32 × pv_XT) (hq : m_X6_follows x1 x2 x3 w0 = some F) : pv_RW l E yX6_follows wsX6_follows r_X6_follows (pv_wX E a w0) [.ref (a 0), .int x1, .int x2, .int x3] (some (.int F.1)) (pv_wX E a F.2) := by
  intro sz
  refine pv_mk (by decide) rfl (Nat.le_of_ble_eq_true rfl) ?_
  intro p e s m args below meth c A hx hb hr hml hown hts hlk hAe hP hD0 hA hE hS ls hl
  have hown : s.vm.findClass RX6 = some m.cls := hown
  have hK := hE.1
  have hD : ∀ w : pv_XT, va_D A (pv_wX E a w) := fun w => pv_Dm (ws := pv_wX E a w0) (ws' := pv_wX E a w) rfl hD0
  have hP : va_P E.1 vwCl (pv_wX E a w0) s.heap := hP
  have lc_51 : (Cond.constant RX6 51 (-1000000001)).before args s = true := hts _ (by decide +kernel)
  have fl_10 : (Cond.fieldLink RX6 10 "ProvinceCards" "table" "LProvinceCards$Table;").before args s = true := hts _ (by decide +kernel)
  have fl_112 : (Cond.fieldLink RX6 112 "ProvinceCards$Table" "kinds" "[I").before args s = true := hts _ (by decide +kernel)
  have fl_80 : (Cond.fieldLink RX6 80 "ProvinceCards$Table" "month" "I").before args s = true := hts _ (by decide +kernel)
  have i_RX6 : ∀ w ∈ wsX60, w ∈ wsX6_follows := by decide +kernel
  have i_RX4 : ∀ w ∈ wsX40, w ∈ wsX6_follows := by decide +kernel
  have hl : lv_has ls 6 [(0, .ref (a 0)), (1, .int x1), (2, .int x2), (3, .int x3)] := hl
  have B_25 : ∀  (w : pv_XT) (H : Heap) (locs : List Loc) (ls : Array Slot), va_P E.1 vwCl (pv_wX E a w) H → va_S A s.heap H locs → lv_has ls 6 [(0, .ref (a 0))] → m_X6_follows_25 w = some F → W p l e r_X6_follows s m args below meth c H locs 0 0 (MQ below (pv_Rw E (pv_wX E a w0) sz (some (.int F.1)) ((fun w : pv_XT => pv_wX E a w) F.2)) args s 0 0 A) (F0 m 25 ls []) := by
    intro w H locs ls hP hS hl hq
    refine lv_aload_n (pc := 25) hx hb dX6_follows_25 rfl (lv_at hl 0 rfl) ?_
    refine lv_ldc (pc := 26) hx hb hown lc_51 dX6_follows_26 ?_
    obtain ⟨u_2, hu_2, hq⟩ := pv_bind hq
    refine pv_vRWf (pc := 28) (rest := []) (st1 := [.int u_2.1]) (ws := pv_wX E a w) [.int (-1000000001)] ⟨hx, hb, hml, hown, hts⟩ hE hA hS hP (hD w) (c_X6_finding l E a (-1000000001) w u_2 hu_2) (cwV 1 hts gX6_follows_X6_finding rfl rfl rfl (by decide +kernel) ⟨(Nat.le_of_ble_eq_true rfl), (Nat.le_of_ble_eq_true rfl)⟩) (va_recv hK hP (ci := 4) (q0 := 0) rfl rfl) rfl hl.1 rfl rfl (Nat.le_of_ble_eq_true rfl) dX6_follows_28 ⟨Nat.zero_le _, Nat.zero_le _⟩ (fun H locs hP hS => ?_)
    have hP : va_P E.1 vwCl (pv_wX E a u_2.2) H := hP
    exact pv_riRW (w := fun w : pv_XT => pv_wX E a w) hx hb hr hlk hAe hS hP (Option.some.inj hq) dX6_follows_31
  suffices M0 : ∀ (H : Heap) (locs : List Loc), va_P E.1 vwCl (pv_wX E a w0) H → va_S A s.heap H locs → W p l e r_X6_follows s m args below meth c H locs 0 0 (MQ below (pv_Rw E (pv_wX E a w0) sz (some (.int F.1)) ((fun w : pv_XT => pv_wX E a w) F.2)) args s 0 0 A) (F0 m 0 ls []) from M0 s.heap [] hP hS
  intro H locs hP hS
  refine lv_aload_n (pc := 0) hx hb dX6_follows_0 rfl (lv_at hl 0 rfl) ?_
  refine lv_iload_n (pc := 1) hx hb dX6_follows_1 rfl (lv_at hl 1 rfl) ?_
  refine pv_vROf (pc := 2) (rest := []) (st1 := [.int (m_X6_isEnvoy x1 w0)]) (ws := pv_wX E a w0) [.int x1] ⟨hx, hb, hml, hown, hts⟩ hE hA hS hP (hD w0) (c_X6_isEnvoy l E a x1 w0) (cwV 1 hts gX6_follows_X6_isEnvoy rfl rfl rfl (by decide +kernel) ⟨(Nat.le_of_ble_eq_true rfl), (Nat.le_of_ble_eq_true rfl)⟩) (va_recv hK hP (ci := 4) (q0 := 0) rfl rfl) rfl hl.1 rfl rfl (Nat.le_of_ble_eq_true rfl) dX6_follows_2 ⟨Nat.zero_le _, Nat.zero_le _⟩ (fun locs hS => ?_)
  refine lv_if_eq (pc := 5) (tgt := 25) hx hb dX6_follows_5 (by decide) (fun c_1 => ?_) (fun c_1 => ?_)
  · have hq := pv_pos c_1 hq
    exact B_25 w0 H locs ls hP hS (lv_sub hl [0] rfl) hq
  · have hq := pv_neg c_1 hq
    refine lv_iload_n (pc := 8) hx hb dX6_follows_8 rfl (lv_at hl 2 rfl) ?_
    refine pv_sRO (pc := 9) (rest := []) (st1 := [.int (m_X6_isState x2)]) (ws := pv_wX E a w0) [.int x2] ⟨hx, hb, hml, hown, hts⟩ hE hA hS hP (hD w0) (c_X6_isState l E x2) (va_cwS 1 hts gX6_follows_X6_isState rfl rfl rfl (by decide +kernel) ⟨(Nat.le_of_ble_eq_true rfl), (Nat.le_of_ble_eq_true rfl)⟩) [] rfl rfl rfl hl.1 rfl rfl (Nat.le_of_ble_eq_true rfl) dX6_follows_9 ⟨Nat.zero_le _, Nat.zero_le _⟩ (fun locs hS => ?_)
    refine lv_if_eq (pc := 12) (tgt := 25) hx hb dX6_follows_12 (by decide) (fun c_3 => ?_) (fun c_3 => ?_)
    · have hq := pv_pos c_3 hq
      exact B_25 w0 H locs ls hP hS (lv_sub hl [0] rfl) hq
    · have hq := pv_neg c_3 hq
      refine lv_iload_n (pc := 15) hx hb dX6_follows_15 rfl (lv_at hl 3 rfl) ?_
      refine lv_iconst (pc := 16) (v := 0) hx hb dX6_follows_16 (by decide) ?_
      refine lv_bipush (pc := 17) (v := 31) hx hb dX6_follows_17 (by decide) ?_
      refine pv_sRO (pc := 19) (rest := []) (st1 := [.int (m_X6_isWithin x3 0 31)]) (ws := pv_wX E a w0) [.int x3, .int 0, .int 31] ⟨hx, hb, hml, hown, hts⟩ hE hA hS hP (hD w0) (c_X6_isWithin l E x3 0 31) (va_cwS 3 hts gX6_follows_X6_isWithin rfl rfl rfl (by decide +kernel) ⟨(Nat.le_of_ble_eq_true rfl), (Nat.le_of_ble_eq_true rfl)⟩) [] rfl rfl rfl hl.1 rfl rfl (Nat.le_of_ble_eq_true rfl) dX6_follows_19 ⟨Nat.zero_le _, Nat.zero_le _⟩ (fun locs hS => ?_)
      refine lv_if_ne (pc := 22) (tgt := 32) hx hb dX6_follows_22 (by decide) (fun c_4 => ?_) (fun c_4 => ?_)
      · have hq := pv_neg c_4 hq
        refine lv_aload_n (pc := 32) hx hb dX6_follows_32 rfl (lv_at hl 0 rfl) ?_
        refine va_get (pc := 33) (D := E.1) (ci := 4) (v := .ref (a 1)) (C := RX6) (T := TX6) (N := 8) hx hb hts i_RX6 hown hK hP 0 rfl rfl 0 (Nat.le_of_ble_eq_true rfl) fl_10 (fun _ h9 => h9) rfl dX6_follows_33 ?_
        refine va_get (pc := 36) (D := E.1) (ci := 2) (v := .ref (a 5)) (C := RX4) (T := TX4) (N := 8) hx hb hts i_RX4 hown hK hP 1 rfl rfl 6 (Nat.le_of_ble_eq_true rfl) fl_112 (fun _ h9 => h9) rfl dX6_follows_36 ?_
        refine lv_iload_n (pc := 39) hx hb dX6_follows_39 rfl (lv_at hl 1 rfl) ?_
        obtain ⟨h_5, hq⟩ := pv_gd_some hq
        refine va_iald (pc := 40) (D := E.1) hx hb hK hP 5 0 rfl rfl h_5 dX6_follows_40 ?_
        refine lv_istore (pc := 41) (lv' := [(4, .int (w0.1.2.2.2.2.2.2.1 x1.toNatClampNeg)), (0, .ref (a 0)), (1, .int x1), (2, .int x2), (3, .int x3)]) hx hb dX6_follows_41 hl (Nat.le_of_ble_eq_true rfl) rfl (fun ls hl => ?_)
        refine lv_iload (pc := 43) hx hb dX6_follows_43 (lv_at hl 0 rfl) ?_
        refine lv_aload_n (pc := 45) hx hb dX6_follows_45 rfl (lv_at hl 1 rfl) ?_
        refine va_get (pc := 46) (D := E.1) (ci := 4) (v := .ref (a 1)) (C := RX6) (T := TX6) (N := 8) hx hb hts i_RX6 hown hK hP 0 rfl rfl 0 (Nat.le_of_ble_eq_true rfl) fl_10 (fun _ h9 => h9) rfl dX6_follows_46 ?_
        refine lv_iload_n (pc := 49) hx hb dX6_follows_49 rfl (lv_at hl 3 rfl) ?_
        obtain ⟨u_6, hu_6, hq⟩ := pv_bind hq
        refine pv_vRO (pc := 50) (rest := [.int (w0.1.2.2.2.2.2.2.1 x1.toNatClampNeg)]) (st1 := [.int u_6, .int (w0.1.2.2.2.2.2.2.1 x1.toNatClampNeg)]) (ws := pv_wX E a w0) [.int x2] ⟨hx, hb, hml, hown, hts⟩ hE hA hS hP (hD w0) (c_X4_hand l E (a 1) (a 2) (a 3) (a 4) (a 5) (a 6) x2 w0.1 u_6 hu_6) (cwV 1 hts gX6_follows_X4_hand rfl rfl rfl (by decide +kernel) ⟨(Nat.le_of_ble_eq_true rfl), (Nat.le_of_ble_eq_true rfl)⟩) (va_recv hK hP (ci := 2) (q0 := 1) rfl rfl) [1, 2, 3, 4, 5, 6] rfl rfl rfl hl.1 rfl rfl (Nat.le_of_ble_eq_true rfl) dX6_follows_50 ⟨Nat.zero_le _, Nat.zero_le _⟩ (fun locs hS => ?_)
        refine lv_iload_n (pc := 53) hx hb dX6_follows_53 rfl (lv_at hl 4 rfl) ?_
        refine lv_aload_n (pc := 54) hx hb dX6_follows_54 rfl (lv_at hl 1 rfl) ?_
        refine va_get (pc := 55) (D := E.1) (ci := 4) (v := .ref (a 1)) (C := RX6) (T := TX6) (N := 8) hx hb hts i_RX6 hown hK hP 0 rfl rfl 0 (Nat.le_of_ble_eq_true rfl) fl_10 (fun _ h9 => h9) rfl dX6_follows_55 ?_
        refine va_get (pc := 58) (D := E.1) (ci := 2) (v := .int w0.1.1) (C := RX4) (T := TX4) (N := 8) hx hb hts i_RX4 hown hK hP 1 rfl rfl 0 (Nat.le_of_ble_eq_true rfl) fl_80 (fun _ h9 => h9) rfl dX6_follows_58 ?_
        obtain ⟨u_7, hu_7, hq⟩ := pv_bind hq
        refine pv_sRO (pc := 61) (rest := []) (st1 := [.int u_7]) (ws := pv_wX E a w0) [.int (w0.1.2.2.2.2.2.2.1 x1.toNatClampNeg), .int u_6, .int x3, .int w0.1.1] ⟨hx, hb, hml, hown, hts⟩ hE hA hS hP (hD w0) (c_X2_mayPlay l E (w0.1.2.2.2.2.2.2.1 x1.toNatClampNeg) u_6 x3 w0.1.1 u_7 hu_7) (va_cwS 4 hts gX6_follows_X2_mayPlay rfl rfl rfl (by decide +kernel) ⟨(Nat.le_of_ble_eq_true rfl), (Nat.le_of_ble_eq_true rfl)⟩) [] rfl rfl rfl hl.1 rfl rfl (Nat.le_of_ble_eq_true rfl) dX6_follows_61 ⟨Nat.zero_le _, Nat.zero_le _⟩ (fun locs hS => ?_)
        refine lv_istore (pc := 64) (lv' := [(5, .int u_7), (4, .int (w0.1.2.2.2.2.2.2.1 x1.toNatClampNeg)), (0, .ref (a 0)), (1, .int x1), (2, .int x2), (3, .int x3)]) hx hb dX6_follows_64 hl (Nat.le_of_ble_eq_true rfl) rfl (fun ls hl => ?_)
        refine lv_iload (pc := 66) hx hb dX6_follows_66 (lv_at hl 1 rfl) ?_
        refine lv_iload (pc := 68) hx hb dX6_follows_68 (lv_at hl 0 rfl) ?_
        refine lv_iload_n (pc := 70) hx hb dX6_follows_70 rfl (lv_at hl 5 rfl) ?_
        refine lv_aload_n (pc := 71) hx hb dX6_follows_71 rfl (lv_at hl 2 rfl) ?_
        refine va_get (pc := 72) (D := E.1) (ci := 4) (v := .ref (a 1)) (C := RX6) (T := TX6) (N := 8) hx hb hts i_RX6 hown hK hP 0 rfl rfl 0 (Nat.le_of_ble_eq_true rfl) fl_10 (fun _ h9 => h9) rfl dX6_follows_72 ?_
        refine pv_vRO (pc := 75) (rest := [.int x3, .int u_7, .int (w0.1.2.2.2.2.2.2.1 x1.toNatClampNeg)]) (st1 := [.int (m_X4_trump w0.1), .int x3, .int u_7, .int (w0.1.2.2.2.2.2.2.1 x1.toNatClampNeg)]) (ws := pv_wX E a w0) [] ⟨hx, hb, hml, hown, hts⟩ hE hA hS hP (hD w0) (c_X4_trump l E (a 1) (a 2) (a 3) (a 4) (a 5) (a 6) w0.1) (cwV 0 hts gX6_follows_X4_trump rfl rfl rfl (by decide +kernel) ⟨(Nat.le_of_ble_eq_true rfl), (Nat.le_of_ble_eq_true rfl)⟩) (va_recv hK hP (ci := 2) (q0 := 1) rfl rfl) [1, 2, 3, 4, 5, 6] rfl rfl rfl hl.1 rfl rfl (Nat.le_of_ble_eq_true rfl) dX6_follows_75 ⟨Nat.zero_le _, Nat.zero_le _⟩ (fun locs hS => ?_)
        obtain ⟨u_8, hu_8, hq⟩ := pv_bind hq
        refine pv_sRO (pc := 78) (rest := []) (st1 := [.int u_8]) (ws := pv_wX E a w0) [.int (w0.1.2.2.2.2.2.2.1 x1.toNatClampNeg), .int u_7, .int x3, .int (m_X4_trump w0.1)] ⟨hx, hb, hml, hown, hts⟩ hE hA hS hP (hD w0) (c_X2_follow l E (w0.1.2.2.2.2.2.2.1 x1.toNatClampNeg) u_7 x3 (m_X4_trump w0.1) u_8 hu_8) (va_cwS 4 hts gX6_follows_X2_follow rfl rfl rfl (by decide +kernel) ⟨(Nat.le_of_ble_eq_true rfl), (Nat.le_of_ble_eq_true rfl)⟩) [] rfl rfl rfl hl.1 rfl rfl (Nat.le_of_ble_eq_true rfl) dX6_follows_78 ⟨Nat.zero_le _, Nat.zero_le _⟩ (fun locs hS => ?_)
        exact pv_riRW (w := fun w : pv_XT => pv_wX E a w) hx hb hr hlk hAe hS hP (Option.some.inj hq) dX6_follows_81
      · have hq := pv_pos c_4 hq
        exact B_25 w0 H locs ls hP hS (lv_sub hl [0] rfl) hq
