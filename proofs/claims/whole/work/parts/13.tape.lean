def m_X5_put (x1 : Int32) (w : pv_PT) : Option (pv_PT) :=
  if 120 ≤ w.2.1 then (some w) else (pv_gd w.2.1 120 (some ((upd w.1 w.2.1.toNatClampNeg x1), (w.2.1 + 1), w.2.2.1, w.2.2.2.1, w.2.2.2.2.1, w.2.2.2.2.2)))
abbrev r_X5_put : Room := { frames := 0, cells := 0, slots := 0, locals := 0 }
set_option maxHeartbeats 4000000 in
set_option maxRecDepth 100000 in
theorem c_X5_put (l : Launch) (E : pv_E) (q0 q1 : Nat) (x1 : Int32) (w0 : pv_PT) (F : pv_PT) (hq : m_X5_put x1 w0 = some F) : pv_RW l E yX5_put wsX5_put r_X5_put (pv_wP E q0 q1 w0) [.ref q0, .int x1] (none) (pv_wP E q0 q1 F) := by
  intro sz
  refine pv_mk (by decide) rfl (Nat.le_of_ble_eq_true rfl) ?_
  intro p e s m args below meth c A hx hb hr hml hown hts hlk hAe hP hD0 hA hE hS ls hl
  have hown : s.vm.findClass RX5 = some m.cls := hown
  have hK := hE.1
  have hD : ∀ w : pv_PT, va_D A (pv_wP E q0 q1 w) := fun w => pv_Dm (ws := pv_wP E q0 q1 w0) (ws' := pv_wP E q0 q1 w) rfl hD0
  have hP : va_P E.1 vwCl (pv_wP E q0 q1 w0) s.heap := hP
  have fl_15 : (Cond.fieldLink RX5 15 "ProvinceCards$Tape" "length" "I").before args s = true := hts _ (by decide +kernel)
  have fl_11 : (Cond.fieldLink RX5 11 "ProvinceCards$Tape" "bytes" "[I").before args s = true := hts _ (by decide +kernel)
  have i_RX5 : ∀ w ∈ wsX50, w ∈ wsX5_put := by decide +kernel
  have hl : lv_has ls 2 [(0, .ref q0), (1, .int x1)] := hl
  suffices M0 : ∀ (H : Heap) (locs : List Loc), va_P E.1 vwCl (pv_wP E q0 q1 w0) H → va_S A s.heap H locs → W p l e r_X5_put s m args below meth c H locs 0 0 (MQ below (pv_Rw E (pv_wP E q0 q1 w0) sz (none) ((fun w : pv_PT => pv_wP E q0 q1 w) F)) args s 0 0 A) (F0 m 0 ls []) from M0 s.heap [] hP hS
  intro H locs hP hS
  refine lv_aload_n (pc := 0) hx hb dX5_put_0 rfl (lv_at hl 0 rfl) ?_
  refine va_get (pc := 1) (D := E.1) (ci := 3) (v := .int w0.2.1) (C := RX5) (T := TX5) (N := 6) hx hb hts i_RX5 hown hK hP 0 rfl rfl 1 (Nat.le_of_ble_eq_true rfl) fl_15 (fun _ h9 => h9) rfl dX5_put_1 ?_
  refine lv_bipush (pc := 4) (v := 120) hx hb dX5_put_4 (by decide) ?_
  refine lv_icmp_ge (pc := 6) (tgt := 29) hx hb dX5_put_6 (by decide) (fun c_1 => ?_) (fun c_1 => ?_)
  · have hq := pv_pos c_1 hq
    exact pv_rvRW (w := fun w : pv_PT => pv_wP E q0 q1 w) hx hb hr hlk hAe hS hP (Option.some.inj hq) dX5_put_29
  · have hq := pv_neg c_1 hq
    refine lv_aload_n (pc := 9) hx hb dX5_put_9 rfl (lv_at hl 0 rfl) ?_
    refine va_get (pc := 10) (D := E.1) (ci := 3) (v := .ref q1) (C := RX5) (T := TX5) (N := 6) hx hb hts i_RX5 hown hK hP 0 rfl rfl 0 (Nat.le_of_ble_eq_true rfl) fl_11 (fun _ h9 => h9) rfl dX5_put_10 ?_
    refine lv_aload_n (pc := 13) hx hb dX5_put_13 rfl (lv_at hl 0 rfl) ?_
    refine va_get (pc := 14) (D := E.1) (ci := 3) (v := .int w0.2.1) (C := RX5) (T := TX5) (N := 6) hx hb hts i_RX5 hown hK hP 0 rfl rfl 1 (Nat.le_of_ble_eq_true rfl) fl_15 (fun _ h9 => h9) rfl dX5_put_14 ?_
    refine lv_iload_n (pc := 17) hx hb dX5_put_17 rfl (lv_at hl 1 rfl) ?_
    obtain ⟨h_2, hq⟩ := pv_gd_some hq
    refine va_iast (pc := 18) (D := E.1) hx hb hK hP (hD w0) hS 1 0 rfl rfl h_2 dX5_put_18 (fun H locs hP _ hS => ?_)
    have hP : va_P E.1 vwCl (pv_wP E q0 q1 ((upd w0.1 w0.2.1.toNatClampNeg x1), w0.2.1, w0.2.2.1, w0.2.2.2.1, w0.2.2.2.2.1, w0.2.2.2.2.2)) H := hP
    refine lv_aload_n (pc := 19) hx hb dX5_put_19 rfl (lv_at hl 0 rfl) ?_
    refine lv_dup (pc := 20) hx hb dX5_put_20 rfl ?_
    refine va_get (pc := 21) (D := E.1) (ci := 3) (v := .int w0.2.1) (C := RX5) (T := TX5) (N := 6) hx hb hts i_RX5 hown hK hP 0 rfl rfl 1 (Nat.le_of_ble_eq_true rfl) fl_15 (fun _ h9 => h9) rfl dX5_put_21 ?_
    refine lv_iconst (pc := 24) (v := 1) hx hb dX5_put_24 (by decide) ?_
    refine lv_iadd (pc := 25) hx hb dX5_put_25 ?_
    refine va_put (pc := 26) (D := E.1) (ci := 3) (v := .int (w0.2.1 + 1)) (ty := .int) (C := RX5) (T := TX5) (N := 6) hx hb hts i_RX5 tyX5 tyX5_ok nmX5 hown hK hP (hD ((upd w0.1 w0.2.1.toNatClampNeg x1), w0.2.1, w0.2.2.1, w0.2.2.2.1, w0.2.2.2.2.1, w0.2.2.2.2.2)) hS 0 rfl rfl 1 (Nat.le_of_ble_eq_true rfl) fl_15 (fun _ h9 => h9) rfl (tyX5_ok 1 (Nat.le_of_ble_eq_true rfl)) rfl rfl (Nat.le_of_ble_eq_true rfl) dX5_put_26 (fun H locs hP _ hS => ?_)
    have hP : va_P E.1 vwCl (pv_wP E q0 q1 ((upd w0.1 w0.2.1.toNatClampNeg x1), (w0.2.1 + 1), w0.2.2.1, w0.2.2.2.1, w0.2.2.2.2.1, w0.2.2.2.2.2)) H := hP
    exact pv_rvRW (w := fun w : pv_PT => pv_wP E q0 q1 w) hx hb hr hlk hAe hS hP (Option.some.inj hq) dX5_put_29
def m_X5_stepWord_5 : Nat → pv_PT → Option (pv_PT)
  | 0 => fun _ => none
  | n + 1 => fun w =>
    if w.2.1 ≤ w.2.2.2.2.1 then (some w) else (pv_gd w.2.2.2.2.1 120 (if (m_X5_isLetter (w.1 w.2.2.2.2.1.toNatClampNeg)) = 0 then (some w) else ((m_X5_stepWord_5 n) (w.1, w.2.1, w.2.2.1, w.2.2.2.1, (w.2.2.2.2.1 + 1), w.2.2.2.2.2))))
def m_X5_stepWord  (w : pv_PT) : Option (pv_PT) :=
  m_X5_stepWord_5 300 (w.1, w.2.1, 1, w.2.2.2.1, w.2.2.2.2.1, w.2.2.2.2.2)
abbrev r_X5_stepWord : Room := { frames := 1, cells := 0, slots := 0, locals := 20 }
set_option maxHeartbeats 4000000 in
set_option maxRecDepth 100000 in
theorem c_X5_stepWord (l : Launch) (E : pv_E) (q0 q1 : Nat)  (w0 : pv_PT) (F : pv_PT) (hq : m_X5_stepWord w0 = some F) : pv_RW l E yX5_stepWord wsX5_stepWord r_X5_stepWord (pv_wP E q0 q1 w0) [.ref q0] (none) (pv_wP E q0 q1 F) := by
  intro sz
  refine pv_mk (by decide) rfl (Nat.le_of_ble_eq_true rfl) ?_
  intro p e s m args below meth c A hx hb hr hml hown hts hlk hAe hP hD0 hA hE hS ls hl
  have hown : s.vm.findClass RX5 = some m.cls := hown
  have hK := hE.1
  have hD : ∀ w : pv_PT, va_D A (pv_wP E q0 q1 w) := fun w => pv_Dm (ws := pv_wP E q0 q1 w0) (ws' := pv_wP E q0 q1 w) rfl hD0
  have hP : va_P E.1 vwCl (pv_wP E q0 q1 w0) s.heap := hP
  have fl_32 : (Cond.fieldLink RX5 32 "ProvinceCards$Tape" "token" "I").before args s = true := hts _ (by decide +kernel)
  have fl_19 : (Cond.fieldLink RX5 19 "ProvinceCards$Tape" "place" "I").before args s = true := hts _ (by decide +kernel)
  have fl_15 : (Cond.fieldLink RX5 15 "ProvinceCards$Tape" "length" "I").before args s = true := hts _ (by decide +kernel)
  have fl_11 : (Cond.fieldLink RX5 11 "ProvinceCards$Tape" "bytes" "[I").before args s = true := hts _ (by decide +kernel)
  have i_RX5 : ∀ w ∈ wsX50, w ∈ wsX5_stepWord := by decide +kernel
  have hl : lv_has ls 1 [(0, .ref q0)] := hl
  have L_5 : ∀ n : Nat, ∀  (w : pv_PT) (H : Heap) (locs : List Loc) (ls : Array Slot), va_P E.1 vwCl (pv_wP E q0 q1 w) H → va_S A s.heap H locs → lv_has ls 1 [(0, .ref q0)] → m_X5_stepWord_5 n w = some F → W p l e r_X5_stepWord s m args below meth c H locs 0 0 (MQ below (pv_Rw E (pv_wP E q0 q1 w0) sz (none) ((fun w : pv_PT => pv_wP E q0 q1 w) F)) args s 0 0 A) (F0 m 5 ls []) := by
    intro n
    induction n with
    | zero =>
      intro w H locs ls hP hS hl hq
      exact (pv_no hq).elim
    | succ n ih =>
      intro w H locs ls hP hS hl hq
      refine lv_aload_n (pc := 5) hx hb dX5_stepWord_5 rfl (lv_at hl 0 rfl) ?_
      refine va_get (pc := 6) (D := E.1) (ci := 3) (v := .int w.2.2.2.2.1) (C := RX5) (T := TX5) (N := 6) hx hb hts i_RX5 hown hK hP 0 rfl rfl 4 (Nat.le_of_ble_eq_true rfl) fl_19 (fun _ h9 => h9) rfl dX5_stepWord_6 ?_
      refine lv_aload_n (pc := 9) hx hb dX5_stepWord_9 rfl (lv_at hl 0 rfl) ?_
      refine va_get (pc := 10) (D := E.1) (ci := 3) (v := .int w.2.1) (C := RX5) (T := TX5) (N := 6) hx hb hts i_RX5 hown hK hP 0 rfl rfl 1 (Nat.le_of_ble_eq_true rfl) fl_15 (fun _ h9 => h9) rfl dX5_stepWord_10 ?_
      refine lv_icmp_ge (pc := 13) (tgt := 44) hx hb dX5_stepWord_13 (by decide) (fun c_1 => ?_) (fun c_1 => ?_)
      · have hq := pv_pos c_1 hq
        exact pv_rvRW (w := fun w : pv_PT => pv_wP E q0 q1 w) hx hb hr hlk hAe hS hP (Option.some.inj hq) dX5_stepWord_44
      · have hq := pv_neg c_1 hq
        refine lv_aload_n (pc := 16) hx hb dX5_stepWord_16 rfl (lv_at hl 0 rfl) ?_
        refine va_get (pc := 17) (D := E.1) (ci := 3) (v := .ref q1) (C := RX5) (T := TX5) (N := 6) hx hb hts i_RX5 hown hK hP 0 rfl rfl 0 (Nat.le_of_ble_eq_true rfl) fl_11 (fun _ h9 => h9) rfl dX5_stepWord_17 ?_
        refine lv_aload_n (pc := 20) hx hb dX5_stepWord_20 rfl (lv_at hl 0 rfl) ?_
        refine va_get (pc := 21) (D := E.1) (ci := 3) (v := .int w.2.2.2.2.1) (C := RX5) (T := TX5) (N := 6) hx hb hts i_RX5 hown hK hP 0 rfl rfl 4 (Nat.le_of_ble_eq_true rfl) fl_19 (fun _ h9 => h9) rfl dX5_stepWord_21 ?_
        obtain ⟨h_2, hq⟩ := pv_gd_some hq
        refine va_iald (pc := 24) (D := E.1) hx hb hK hP 1 0 rfl rfl h_2 dX5_stepWord_24 ?_
        refine pv_sRO (pc := 25) (rest := []) (st1 := [.int (m_X5_isLetter (w.1 w.2.2.2.2.1.toNatClampNeg))]) (ws := pv_wP E q0 q1 w) [.int (w.1 w.2.2.2.2.1.toNatClampNeg)] ⟨hx, hb, hml, hown, hts⟩ hE hA hS hP (hD w) (c_X5_isLetter l E (w.1 w.2.2.2.2.1.toNatClampNeg)) (va_cwS 1 hts gX5_stepWord_X5_isLetter rfl rfl rfl (by decide +kernel) ⟨(Nat.le_of_ble_eq_true rfl), (Nat.le_of_ble_eq_true rfl)⟩) [] rfl rfl rfl hl.1 rfl rfl (Nat.le_of_ble_eq_true rfl) dX5_stepWord_25 ⟨Nat.zero_le _, Nat.zero_le _⟩ (fun locs hS => ?_)
        refine lv_if_eq (pc := 28) (tgt := 44) hx hb dX5_stepWord_28 (by decide) (fun c_3 => ?_) (fun c_3 => ?_)
        · have hq := pv_pos c_3 hq
          exact pv_rvRW (w := fun w : pv_PT => pv_wP E q0 q1 w) hx hb hr hlk hAe hS hP (Option.some.inj hq) dX5_stepWord_44
        · have hq := pv_neg c_3 hq
          refine lv_aload_n (pc := 31) hx hb dX5_stepWord_31 rfl (lv_at hl 0 rfl) ?_
          refine lv_dup (pc := 32) hx hb dX5_stepWord_32 rfl ?_
          refine va_get (pc := 33) (D := E.1) (ci := 3) (v := .int w.2.2.2.2.1) (C := RX5) (T := TX5) (N := 6) hx hb hts i_RX5 hown hK hP 0 rfl rfl 4 (Nat.le_of_ble_eq_true rfl) fl_19 (fun _ h9 => h9) rfl dX5_stepWord_33 ?_
          refine lv_iconst (pc := 36) (v := 1) hx hb dX5_stepWord_36 (by decide) ?_
          refine lv_iadd (pc := 37) hx hb dX5_stepWord_37 ?_
          refine va_put (pc := 38) (D := E.1) (ci := 3) (v := .int (w.2.2.2.2.1 + 1)) (ty := .int) (C := RX5) (T := TX5) (N := 6) hx hb hts i_RX5 tyX5 tyX5_ok nmX5 hown hK hP (hD w) hS 0 rfl rfl 4 (Nat.le_of_ble_eq_true rfl) fl_19 (fun _ h9 => h9) rfl (tyX5_ok 4 (Nat.le_of_ble_eq_true rfl)) rfl rfl (Nat.le_of_ble_eq_true rfl) dX5_stepWord_38 (fun H locs hP _ hS => ?_)
          have hP : va_P E.1 vwCl (pv_wP E q0 q1 (w.1, w.2.1, w.2.2.1, w.2.2.2.1, (w.2.2.2.2.1 + 1), w.2.2.2.2.2)) H := hP
          refine lv_goto (pc := 41) (tgt := 5) hx hb dX5_stepWord_41 (by decide) ?_
          exact ih (w.1, w.2.1, w.2.2.1, w.2.2.2.1, (w.2.2.2.2.1 + 1), w.2.2.2.2.2) H locs ls hP hS (lv_sub hl [0] rfl) hq
  suffices M0 : ∀ (H : Heap) (locs : List Loc), va_P E.1 vwCl (pv_wP E q0 q1 w0) H → va_S A s.heap H locs → W p l e r_X5_stepWord s m args below meth c H locs 0 0 (MQ below (pv_Rw E (pv_wP E q0 q1 w0) sz (none) ((fun w : pv_PT => pv_wP E q0 q1 w) F)) args s 0 0 A) (F0 m 0 ls []) from M0 s.heap [] hP hS
  intro H locs hP hS
  refine lv_aload_n (pc := 0) hx hb dX5_stepWord_0 rfl (lv_at hl 0 rfl) ?_
  refine lv_iconst (pc := 1) (v := 1) hx hb dX5_stepWord_1 (by decide) ?_
  refine va_put (pc := 2) (D := E.1) (ci := 3) (v := .int 1) (ty := .int) (C := RX5) (T := TX5) (N := 6) hx hb hts i_RX5 tyX5 tyX5_ok nmX5 hown hK hP (hD w0) hS 0 rfl rfl 2 (Nat.le_of_ble_eq_true rfl) fl_32 (fun _ h9 => h9) rfl (tyX5_ok 2 (Nat.le_of_ble_eq_true rfl)) rfl rfl (Nat.le_of_ble_eq_true rfl) dX5_stepWord_2 (fun H locs hP _ hS => ?_)
  have hP : va_P E.1 vwCl (pv_wP E q0 q1 (w0.1, w0.2.1, 1, w0.2.2.2.1, w0.2.2.2.2.1, w0.2.2.2.2.2)) H := hP
  exact L_5 300 (w0.1, w0.2.1, 1, w0.2.2.2.1, w0.2.2.2.2.1, w0.2.2.2.2.2) H locs ls hP hS (lv_sub hl [0] rfl) hq
def m_X5_stepNumber_10 : Nat → pv_PT → Option (pv_PT)
  | 0 => fun _ => none
  | n + 1 => fun w =>
    if w.2.1 ≤ w.2.2.2.2.1 then (some w) else (pv_gd w.2.2.2.2.1 120 (if (m_X5_isDigit (w.1 w.2.2.2.2.1.toNatClampNeg)) = 0 then (some w) else (pv_gd w.2.2.2.2.1 120 ((m_X5_stepNumber_10 n) (w.1, w.2.1, w.2.2.1, w.2.2.2.1, (w.2.2.2.2.1 + 1), (if (((10 * w.2.2.2.2.2) + (w.1 w.2.2.2.2.1.toNatClampNeg)) - 48) < 1000 then (((10 * w.2.2.2.2.2) + (w.1 w.2.2.2.2.1.toNatClampNeg)) - 48) else 1000))))))
def m_X5_stepNumber  (w : pv_PT) : Option (pv_PT) :=
  m_X5_stepNumber_10 300 (w.1, w.2.1, 2, w.2.2.2.1, w.2.2.2.2.1, 0)
abbrev r_X5_stepNumber : Room := { frames := 1, cells := 0, slots := 0, locals := 21 }
set_option maxHeartbeats 4000000 in
set_option maxRecDepth 100000 in
theorem c_X5_stepNumber (l : Launch) (E : pv_E) (q0 q1 : Nat)  (w0 : pv_PT) (F : pv_PT) (hq : m_X5_stepNumber w0 = some F) : pv_RW l E yX5_stepNumber wsX5_stepNumber r_X5_stepNumber (pv_wP E q0 q1 w0) [.ref q0] (none) (pv_wP E q0 q1 F) := by
  intro sz
  refine pv_mk (by decide) rfl (Nat.le_of_ble_eq_true rfl) ?_
  intro p e s m args below meth c A hx hb hr hml hown hts hlk hAe hP hD0 hA hE hS ls hl
  have hown : s.vm.findClass RX5 = some m.cls := hown
  have hK := hE.1
  have hD : ∀ w : pv_PT, va_D A (pv_wP E q0 q1 w) := fun w => pv_Dm (ws := pv_wP E q0 q1 w0) (ws' := pv_wP E q0 q1 w) rfl hD0
  have hP : va_P E.1 vwCl (pv_wP E q0 q1 w0) s.heap := hP
  have fl_32 : (Cond.fieldLink RX5 32 "ProvinceCards$Tape" "token" "I").before args s = true := hts _ (by decide +kernel)
  have fl_67 : (Cond.fieldLink RX5 67 "ProvinceCards$Tape" "value" "I").before args s = true := hts _ (by decide +kernel)
  have fl_19 : (Cond.fieldLink RX5 19 "ProvinceCards$Tape" "place" "I").before args s = true := hts _ (by decide +kernel)
  have fl_15 : (Cond.fieldLink RX5 15 "ProvinceCards$Tape" "length" "I").before args s = true := hts _ (by decide +kernel)
  have fl_11 : (Cond.fieldLink RX5 11 "ProvinceCards$Tape" "bytes" "[I").before args s = true := hts _ (by decide +kernel)
  have mm_l : (Cond.methodLink RX5 103 Lib.Math.min.name).before args s = true := hts _ (by decide +kernel)
  have mm_s : (Cond.static Lib.Math.min.name).before args s = true := hts _ (by decide +kernel)
  have mm_i : (Cond.initialized "java/lang/Math").before args s = true := hts _ (by decide +kernel)
  have mm_c : (Cond.code Lib.Math.min.name Lib.Math.min.code 2 (some .int)).before args s = true := hts _ (by decide +kernel)
  have i_RX5 : ∀ w ∈ wsX50, w ∈ wsX5_stepNumber := by decide +kernel
  have hl : lv_has ls 1 [(0, .ref q0)] := hl
  have L_10 : ∀ n : Nat, ∀  (w : pv_PT) (H : Heap) (locs : List Loc) (ls : Array Slot), va_P E.1 vwCl (pv_wP E q0 q1 w) H → va_S A s.heap H locs → lv_has ls 1 [(0, .ref q0)] → m_X5_stepNumber_10 n w = some F → W p l e r_X5_stepNumber s m args below meth c H locs 0 0 (MQ below (pv_Rw E (pv_wP E q0 q1 w0) sz (none) ((fun w : pv_PT => pv_wP E q0 q1 w) F)) args s 0 0 A) (F0 m 10 ls []) := by
    intro n
    induction n with
    | zero =>
      intro w H locs ls hP hS hl hq
      exact (pv_no hq).elim
    | succ n ih =>
      intro w H locs ls hP hS hl hq
      refine lv_aload_n (pc := 10) hx hb dX5_stepNumber_10 rfl (lv_at hl 0 rfl) ?_
      refine va_get (pc := 11) (D := E.1) (ci := 3) (v := .int w.2.2.2.2.1) (C := RX5) (T := TX5) (N := 6) hx hb hts i_RX5 hown hK hP 0 rfl rfl 4 (Nat.le_of_ble_eq_true rfl) fl_19 (fun _ h9 => h9) rfl dX5_stepNumber_11 ?_
      refine lv_aload_n (pc := 14) hx hb dX5_stepNumber_14 rfl (lv_at hl 0 rfl) ?_
      refine va_get (pc := 15) (D := E.1) (ci := 3) (v := .int w.2.1) (C := RX5) (T := TX5) (N := 6) hx hb hts i_RX5 hown hK hP 0 rfl rfl 1 (Nat.le_of_ble_eq_true rfl) fl_15 (fun _ h9 => h9) rfl dX5_stepNumber_15 ?_
      refine lv_icmp_ge (pc := 18) (tgt := 79) hx hb dX5_stepNumber_18 (by decide) (fun c_1 => ?_) (fun c_1 => ?_)
      · have hq := pv_pos c_1 hq
        exact pv_rvRW (w := fun w : pv_PT => pv_wP E q0 q1 w) hx hb hr hlk hAe hS hP (Option.some.inj hq) dX5_stepNumber_79
      · have hq := pv_neg c_1 hq
        refine lv_aload_n (pc := 21) hx hb dX5_stepNumber_21 rfl (lv_at hl 0 rfl) ?_
        refine va_get (pc := 22) (D := E.1) (ci := 3) (v := .ref q1) (C := RX5) (T := TX5) (N := 6) hx hb hts i_RX5 hown hK hP 0 rfl rfl 0 (Nat.le_of_ble_eq_true rfl) fl_11 (fun _ h9 => h9) rfl dX5_stepNumber_22 ?_
        refine lv_aload_n (pc := 25) hx hb dX5_stepNumber_25 rfl (lv_at hl 0 rfl) ?_
        refine va_get (pc := 26) (D := E.1) (ci := 3) (v := .int w.2.2.2.2.1) (C := RX5) (T := TX5) (N := 6) hx hb hts i_RX5 hown hK hP 0 rfl rfl 4 (Nat.le_of_ble_eq_true rfl) fl_19 (fun _ h9 => h9) rfl dX5_stepNumber_26 ?_
        obtain ⟨h_2, hq⟩ := pv_gd_some hq
        refine va_iald (pc := 29) (D := E.1) hx hb hK hP 1 0 rfl rfl h_2 dX5_stepNumber_29 ?_
        refine pv_sRO (pc := 30) (rest := []) (st1 := [.int (m_X5_isDigit (w.1 w.2.2.2.2.1.toNatClampNeg))]) (ws := pv_wP E q0 q1 w) [.int (w.1 w.2.2.2.2.1.toNatClampNeg)] ⟨hx, hb, hml, hown, hts⟩ hE hA hS hP (hD w) (c_X5_isDigit l E (w.1 w.2.2.2.2.1.toNatClampNeg)) (va_cwS 1 hts gX5_stepNumber_X5_isDigit rfl rfl rfl (by decide +kernel) ⟨(Nat.le_of_ble_eq_true rfl), (Nat.le_of_ble_eq_true rfl)⟩) [] rfl rfl rfl hl.1 rfl rfl (Nat.le_of_ble_eq_true rfl) dX5_stepNumber_30 ⟨Nat.zero_le _, Nat.zero_le _⟩ (fun locs hS => ?_)
        refine lv_if_eq (pc := 33) (tgt := 79) hx hb dX5_stepNumber_33 (by decide) (fun c_3 => ?_) (fun c_3 => ?_)
        · have hq := pv_pos c_3 hq
          exact pv_rvRW (w := fun w : pv_PT => pv_wP E q0 q1 w) hx hb hr hlk hAe hS hP (Option.some.inj hq) dX5_stepNumber_79
        · have hq := pv_neg c_3 hq
          refine lv_aload_n (pc := 36) hx hb dX5_stepNumber_36 rfl (lv_at hl 0 rfl) ?_
          refine lv_sipush (pc := 37) (v := 1000) hx hb dX5_stepNumber_37 (by decide) ?_
          refine lv_bipush (pc := 40) (v := 10) hx hb dX5_stepNumber_40 (by decide) ?_
          refine lv_aload_n (pc := 42) hx hb dX5_stepNumber_42 rfl (lv_at hl 0 rfl) ?_
          refine va_get (pc := 43) (D := E.1) (ci := 3) (v := .int w.2.2.2.2.2) (C := RX5) (T := TX5) (N := 6) hx hb hts i_RX5 hown hK hP 0 rfl rfl 5 (Nat.le_of_ble_eq_true rfl) fl_67 (fun _ h9 => h9) rfl dX5_stepNumber_43 ?_
          refine lv_imul (pc := 46) hx hb dX5_stepNumber_46 ?_
          refine lv_aload_n (pc := 47) hx hb dX5_stepNumber_47 rfl (lv_at hl 0 rfl) ?_
          refine va_get (pc := 48) (D := E.1) (ci := 3) (v := .ref q1) (C := RX5) (T := TX5) (N := 6) hx hb hts i_RX5 hown hK hP 0 rfl rfl 0 (Nat.le_of_ble_eq_true rfl) fl_11 (fun _ h9 => h9) rfl dX5_stepNumber_48 ?_
          refine lv_aload_n (pc := 51) hx hb dX5_stepNumber_51 rfl (lv_at hl 0 rfl) ?_
          refine va_get (pc := 52) (D := E.1) (ci := 3) (v := .int w.2.2.2.2.1) (C := RX5) (T := TX5) (N := 6) hx hb hts i_RX5 hown hK hP 0 rfl rfl 4 (Nat.le_of_ble_eq_true rfl) fl_19 (fun _ h9 => h9) rfl dX5_stepNumber_52 ?_
          obtain ⟨h_4, hq⟩ := pv_gd_some hq
          refine va_iald (pc := 55) (D := E.1) hx hb hK hP 1 0 rfl rfl h_4 dX5_stepNumber_55 ?_
          refine lv_iadd (pc := 56) hx hb dX5_stepNumber_56 ?_
          refine lv_bipush (pc := 57) (v := 48) hx hb dX5_stepNumber_57 (by decide) ?_
          refine lv_isub (pc := 59) hx hb dX5_stepNumber_59 ?_
          refine va_mmin (pc := 60) hx hb (by rw [hml]; exact hl.1.symm) hown mm_l mm_s mm_i mm_c (Nat.le_of_ble_eq_true rfl) (Nat.le_of_ble_eq_true rfl) (Nat.zero_le _) (Nat.zero_le _) dX5_stepNumber_60 ?_
          refine va_put (pc := 63) (D := E.1) (ci := 3) (v := .int (if (((10 * w.2.2.2.2.2) + (w.1 w.2.2.2.2.1.toNatClampNeg)) - 48) < 1000 then (((10 * w.2.2.2.2.2) + (w.1 w.2.2.2.2.1.toNatClampNeg)) - 48) else 1000)) (ty := .int) (C := RX5) (T := TX5) (N := 6) hx hb hts i_RX5 tyX5 tyX5_ok nmX5 hown hK hP (hD w) hS 0 rfl rfl 5 (Nat.le_of_ble_eq_true rfl) fl_67 (fun _ h9 => h9) rfl (tyX5_ok 5 (Nat.le_of_ble_eq_true rfl)) rfl rfl (Nat.le_of_ble_eq_true rfl) dX5_stepNumber_63 (fun H locs hP _ hS => ?_)
          have hP : va_P E.1 vwCl (pv_wP E q0 q1 (w.1, w.2.1, w.2.2.1, w.2.2.2.1, w.2.2.2.2.1, (if (((10 * w.2.2.2.2.2) + (w.1 w.2.2.2.2.1.toNatClampNeg)) - 48) < 1000 then (((10 * w.2.2.2.2.2) + (w.1 w.2.2.2.2.1.toNatClampNeg)) - 48) else 1000))) H := hP
          refine lv_aload_n (pc := 66) hx hb dX5_stepNumber_66 rfl (lv_at hl 0 rfl) ?_
          refine lv_dup (pc := 67) hx hb dX5_stepNumber_67 rfl ?_
          refine va_get (pc := 68) (D := E.1) (ci := 3) (v := .int w.2.2.2.2.1) (C := RX5) (T := TX5) (N := 6) hx hb hts i_RX5 hown hK hP 0 rfl rfl 4 (Nat.le_of_ble_eq_true rfl) fl_19 (fun _ h9 => h9) rfl dX5_stepNumber_68 ?_
          refine lv_iconst (pc := 71) (v := 1) hx hb dX5_stepNumber_71 (by decide) ?_
          refine lv_iadd (pc := 72) hx hb dX5_stepNumber_72 ?_
          refine va_put (pc := 73) (D := E.1) (ci := 3) (v := .int (w.2.2.2.2.1 + 1)) (ty := .int) (C := RX5) (T := TX5) (N := 6) hx hb hts i_RX5 tyX5 tyX5_ok nmX5 hown hK hP (hD (w.1, w.2.1, w.2.2.1, w.2.2.2.1, w.2.2.2.2.1, (if (((10 * w.2.2.2.2.2) + (w.1 w.2.2.2.2.1.toNatClampNeg)) - 48) < 1000 then (((10 * w.2.2.2.2.2) + (w.1 w.2.2.2.2.1.toNatClampNeg)) - 48) else 1000))) hS 0 rfl rfl 4 (Nat.le_of_ble_eq_true rfl) fl_19 (fun _ h9 => h9) rfl (tyX5_ok 4 (Nat.le_of_ble_eq_true rfl)) rfl rfl (Nat.le_of_ble_eq_true rfl) dX5_stepNumber_73 (fun H locs hP _ hS => ?_)
          have hP : va_P E.1 vwCl (pv_wP E q0 q1 (w.1, w.2.1, w.2.2.1, w.2.2.2.1, (w.2.2.2.2.1 + 1), (if (((10 * w.2.2.2.2.2) + (w.1 w.2.2.2.2.1.toNatClampNeg)) - 48) < 1000 then (((10 * w.2.2.2.2.2) + (w.1 w.2.2.2.2.1.toNatClampNeg)) - 48) else 1000))) H := hP
          refine lv_goto (pc := 76) (tgt := 10) hx hb dX5_stepNumber_76 (by decide) ?_
          exact ih (w.1, w.2.1, w.2.2.1, w.2.2.2.1, (w.2.2.2.2.1 + 1), (if (((10 * w.2.2.2.2.2) + (w.1 w.2.2.2.2.1.toNatClampNeg)) - 48) < 1000 then (((10 * w.2.2.2.2.2) + (w.1 w.2.2.2.2.1.toNatClampNeg)) - 48) else 1000)) H locs ls hP hS (lv_sub hl [0] rfl) hq
  suffices M0 : ∀ (H : Heap) (locs : List Loc), va_P E.1 vwCl (pv_wP E q0 q1 w0) H → va_S A s.heap H locs → W p l e r_X5_stepNumber s m args below meth c H locs 0 0 (MQ below (pv_Rw E (pv_wP E q0 q1 w0) sz (none) ((fun w : pv_PT => pv_wP E q0 q1 w) F)) args s 0 0 A) (F0 m 0 ls []) from M0 s.heap [] hP hS
  intro H locs hP hS
  refine lv_aload_n (pc := 0) hx hb dX5_stepNumber_0 rfl (lv_at hl 0 rfl) ?_
  refine lv_iconst (pc := 1) (v := 2) hx hb dX5_stepNumber_1 (by decide) ?_
  refine va_put (pc := 2) (D := E.1) (ci := 3) (v := .int 2) (ty := .int) (C := RX5) (T := TX5) (N := 6) hx hb hts i_RX5 tyX5 tyX5_ok nmX5 hown hK hP (hD w0) hS 0 rfl rfl 2 (Nat.le_of_ble_eq_true rfl) fl_32 (fun _ h9 => h9) rfl (tyX5_ok 2 (Nat.le_of_ble_eq_true rfl)) rfl rfl (Nat.le_of_ble_eq_true rfl) dX5_stepNumber_2 (fun H locs hP _ hS => ?_)
  have hP : va_P E.1 vwCl (pv_wP E q0 q1 (w0.1, w0.2.1, 2, w0.2.2.2.1, w0.2.2.2.2.1, w0.2.2.2.2.2)) H := hP
  refine lv_aload_n (pc := 5) hx hb dX5_stepNumber_5 rfl (lv_at hl 0 rfl) ?_
  refine lv_iconst (pc := 6) (v := 0) hx hb dX5_stepNumber_6 (by decide) ?_
  refine va_put (pc := 7) (D := E.1) (ci := 3) (v := .int 0) (ty := .int) (C := RX5) (T := TX5) (N := 6) hx hb hts i_RX5 tyX5 tyX5_ok nmX5 hown hK hP (hD (w0.1, w0.2.1, 2, w0.2.2.2.1, w0.2.2.2.2.1, w0.2.2.2.2.2)) hS 0 rfl rfl 5 (Nat.le_of_ble_eq_true rfl) fl_67 (fun _ h9 => h9) rfl (tyX5_ok 5 (Nat.le_of_ble_eq_true rfl)) rfl rfl (Nat.le_of_ble_eq_true rfl) dX5_stepNumber_7 (fun H locs hP _ hS => ?_)
  have hP : va_P E.1 vwCl (pv_wP E q0 q1 (w0.1, w0.2.1, 2, w0.2.2.2.1, w0.2.2.2.2.1, 0)) H := hP
  exact L_10 300 (w0.1, w0.2.1, 2, w0.2.2.2.1, w0.2.2.2.2.1, 0) H locs ls hP hS (lv_sub hl [0] rfl) hq
def m_X5_step_129 (y1 : Int32) (w : pv_PT) : Option (pv_PT) :=
  some (w.1, w.2.1, y1, w.2.2.2.1, (w.2.2.2.2.1 + 1), w.2.2.2.2.2)
def m_X5_step_38  (w : pv_PT) : Option (pv_PT) :=
  if w.2.2.2.2.1 < w.2.1 then (pv_gd w.2.2.2.2.1 120 (if (m_X5_isLetter (w.1 w.2.2.2.2.1.toNatClampNeg)) = 0 then (pv_gd w.2.2.2.2.1 120 (if (m_X5_isDigit (w.1 w.2.2.2.2.1.toNatClampNeg)) = 0 then (pv_gd w.2.2.2.2.1 120 (if (w.1 w.2.2.2.2.1.toNatClampNeg) = 59 then (m_X5_step_129 3 (w.1, w.2.1, w.2.2.1, w.2.2.2.2.1, w.2.2.2.2.1, w.2.2.2.2.2)) else (m_X5_step_129 4 (w.1, w.2.1, w.2.2.1, w.2.2.2.2.1, w.2.2.2.2.1, w.2.2.2.2.2)))) else (Option.bind (m_X5_stepNumber (w.1, w.2.1, w.2.2.1, w.2.2.2.2.1, w.2.2.2.2.1, w.2.2.2.2.2)) fun u_9 => (some u_9)))) else (Option.bind (m_X5_stepWord (w.1, w.2.1, w.2.2.1, w.2.2.2.2.1, w.2.2.2.2.1, w.2.2.2.2.2)) fun u_10 => (some u_10)))) else (some (w.1, w.2.1, 0, w.2.2.2.2.1, w.2.2.2.2.1, w.2.2.2.2.2))
def m_X5_step_0 : Nat → pv_PT → Option (pv_PT)
  | 0 => fun _ => none
  | n + 1 => fun w =>
    if w.2.1 ≤ w.2.2.2.2.1 then (m_X5_step_38 w) else (pv_gd w.2.2.2.2.1 120 (if (w.1 w.2.2.2.2.1.toNatClampNeg) = 32 then ((m_X5_step_0 n) (w.1, w.2.1, w.2.2.1, w.2.2.2.1, (w.2.2.2.2.1 + 1), w.2.2.2.2.2)) else (m_X5_step_38 w)))
def m_X5_step  (w : pv_PT) : Option (pv_PT) :=
  m_X5_step_0 300 w
abbrev r_X5_step : Room := { frames := 2, cells := 0, slots := 0, locals := 41 }
set_option maxHeartbeats 4000000 in
set_option maxRecDepth 100000 in
theorem c_X5_step (l : Launch) (E : pv_E) (q0 q1 : Nat)  (w0 : pv_PT) (F : pv_PT) (hq : m_X5_step w0 = some F) : pv_RW l E yX5_step wsX5_step r_X5_step (pv_wP E q0 q1 w0) [.ref q0] (none) (pv_wP E q0 q1 F) := by
  intro sz
  refine pv_mk (by decide) rfl (Nat.le_of_ble_eq_true rfl) ?_
  intro p e s m args below meth c A hx hb hr hml hown hts hlk hAe hP hD0 hA hE hS ls hl
  have hown : s.vm.findClass RX5 = some m.cls := hown
  have hK := hE.1
  have hD : ∀ w : pv_PT, va_D A (pv_wP E q0 q1 w) := fun w => pv_Dm (ws := pv_wP E q0 q1 w0) (ws' := pv_wP E q0 q1 w) rfl hD0
  have hP : va_P E.1 vwCl (pv_wP E q0 q1 w0) s.heap := hP
  have fl_19 : (Cond.fieldLink RX5 19 "ProvinceCards$Tape" "place" "I").before args s = true := hts _ (by decide +kernel)
  have fl_15 : (Cond.fieldLink RX5 15 "ProvinceCards$Tape" "length" "I").before args s = true := hts _ (by decide +kernel)
  have fl_29 : (Cond.fieldLink RX5 29 "ProvinceCards$Tape" "start" "I").before args s = true := hts _ (by decide +kernel)
  have fl_11 : (Cond.fieldLink RX5 11 "ProvinceCards$Tape" "bytes" "[I").before args s = true := hts _ (by decide +kernel)
  have fl_32 : (Cond.fieldLink RX5 32 "ProvinceCards$Tape" "token" "I").before args s = true := hts _ (by decide +kernel)
  have i_RX5 : ∀ w ∈ wsX50, w ∈ wsX5_step := by decide +kernel
  have hl : lv_has ls 1 [(0, .ref q0)] := hl
  have B_129 : ∀ (y1 : Int32) (w : pv_PT) (H : Heap) (locs : List Loc) (ls : Array Slot), va_P E.1 vwCl (pv_wP E q0 q1 w) H → va_S A s.heap H locs → lv_has ls 1 [(0, .ref q0)] → m_X5_step_129 y1 w = some F → W p l e r_X5_step s m args below meth c H locs 0 0 (MQ below (pv_Rw E (pv_wP E q0 q1 w0) sz (none) ((fun w : pv_PT => pv_wP E q0 q1 w) F)) args s 0 0 A) (F0 m 129 ls [.int y1, .ref q0]) := by
    intro y1 w H locs ls hP hS hl hq
    refine va_put (pc := 129) (D := E.1) (ci := 3) (v := .int y1) (ty := .int) (C := RX5) (T := TX5) (N := 6) hx hb hts i_RX5 tyX5 tyX5_ok nmX5 hown hK hP (hD w) hS 0 rfl rfl 2 (Nat.le_of_ble_eq_true rfl) fl_32 (fun _ h9 => h9) rfl (tyX5_ok 2 (Nat.le_of_ble_eq_true rfl)) rfl rfl (Nat.le_of_ble_eq_true rfl) dX5_step_129 (fun H locs hP _ hS => ?_)
    have hP : va_P E.1 vwCl (pv_wP E q0 q1 (w.1, w.2.1, y1, w.2.2.2.1, w.2.2.2.2.1, w.2.2.2.2.2)) H := hP
    refine lv_aload_n (pc := 132) hx hb dX5_step_132 rfl (lv_at hl 0 rfl) ?_
    refine lv_dup (pc := 133) hx hb dX5_step_133 rfl ?_
    refine va_get (pc := 134) (D := E.1) (ci := 3) (v := .int w.2.2.2.2.1) (C := RX5) (T := TX5) (N := 6) hx hb hts i_RX5 hown hK hP 0 rfl rfl 4 (Nat.le_of_ble_eq_true rfl) fl_19 (fun _ h9 => h9) rfl dX5_step_134 ?_
    refine lv_iconst (pc := 137) (v := 1) hx hb dX5_step_137 (by decide) ?_
    refine lv_iadd (pc := 138) hx hb dX5_step_138 ?_
    refine va_put (pc := 139) (D := E.1) (ci := 3) (v := .int (w.2.2.2.2.1 + 1)) (ty := .int) (C := RX5) (T := TX5) (N := 6) hx hb hts i_RX5 tyX5 tyX5_ok nmX5 hown hK hP (hD (w.1, w.2.1, y1, w.2.2.2.1, w.2.2.2.2.1, w.2.2.2.2.2)) hS 0 rfl rfl 4 (Nat.le_of_ble_eq_true rfl) fl_19 (fun _ h9 => h9) rfl (tyX5_ok 4 (Nat.le_of_ble_eq_true rfl)) rfl rfl (Nat.le_of_ble_eq_true rfl) dX5_step_139 (fun H locs hP _ hS => ?_)
    have hP : va_P E.1 vwCl (pv_wP E q0 q1 (w.1, w.2.1, y1, w.2.2.2.1, (w.2.2.2.2.1 + 1), w.2.2.2.2.2)) H := hP
    exact pv_rvRW (w := fun w : pv_PT => pv_wP E q0 q1 w) hx hb hr hlk hAe hS hP (Option.some.inj hq) dX5_step_142
  have B_38 : ∀  (w : pv_PT) (H : Heap) (locs : List Loc) (ls : Array Slot), va_P E.1 vwCl (pv_wP E q0 q1 w) H → va_S A s.heap H locs → lv_has ls 1 [(0, .ref q0)] → m_X5_step_38 w = some F → W p l e r_X5_step s m args below meth c H locs 0 0 (MQ below (pv_Rw E (pv_wP E q0 q1 w0) sz (none) ((fun w : pv_PT => pv_wP E q0 q1 w) F)) args s 0 0 A) (F0 m 38 ls []) := by
    intro w H locs ls hP hS hl hq
    refine lv_aload_n (pc := 38) hx hb dX5_step_38 rfl (lv_at hl 0 rfl) ?_
    refine lv_aload_n (pc := 39) hx hb dX5_step_39 rfl (lv_at hl 0 rfl) ?_
    refine va_get (pc := 40) (D := E.1) (ci := 3) (v := .int w.2.2.2.2.1) (C := RX5) (T := TX5) (N := 6) hx hb hts i_RX5 hown hK hP 0 rfl rfl 4 (Nat.le_of_ble_eq_true rfl) fl_19 (fun _ h9 => h9) rfl dX5_step_40 ?_
    refine va_put (pc := 43) (D := E.1) (ci := 3) (v := .int w.2.2.2.2.1) (ty := .int) (C := RX5) (T := TX5) (N := 6) hx hb hts i_RX5 tyX5 tyX5_ok nmX5 hown hK hP (hD w) hS 0 rfl rfl 3 (Nat.le_of_ble_eq_true rfl) fl_29 (fun _ h9 => h9) rfl (tyX5_ok 3 (Nat.le_of_ble_eq_true rfl)) rfl rfl (Nat.le_of_ble_eq_true rfl) dX5_step_43 (fun H locs hP _ hS => ?_)
    have hP : va_P E.1 vwCl (pv_wP E q0 q1 (w.1, w.2.1, w.2.2.1, w.2.2.2.2.1, w.2.2.2.2.1, w.2.2.2.2.2)) H := hP
    refine lv_aload_n (pc := 46) hx hb dX5_step_46 rfl (lv_at hl 0 rfl) ?_
    refine va_get (pc := 47) (D := E.1) (ci := 3) (v := .int w.2.2.2.2.1) (C := RX5) (T := TX5) (N := 6) hx hb hts i_RX5 hown hK hP 0 rfl rfl 4 (Nat.le_of_ble_eq_true rfl) fl_19 (fun _ h9 => h9) rfl dX5_step_47 ?_
    refine lv_aload_n (pc := 50) hx hb dX5_step_50 rfl (lv_at hl 0 rfl) ?_
    refine va_get (pc := 51) (D := E.1) (ci := 3) (v := .int w.2.1) (C := RX5) (T := TX5) (N := 6) hx hb hts i_RX5 hown hK hP 0 rfl rfl 1 (Nat.le_of_ble_eq_true rfl) fl_15 (fun _ h9 => h9) rfl dX5_step_51 ?_
    refine lv_icmp_lt (pc := 54) (tgt := 65) hx hb dX5_step_54 (by decide) (fun c_2 => ?_) (fun c_2 => ?_)
    · have hq := pv_pos c_2 hq
      refine lv_aload_n (pc := 65) hx hb dX5_step_65 rfl (lv_at hl 0 rfl) ?_
      refine va_get (pc := 66) (D := E.1) (ci := 3) (v := .ref q1) (C := RX5) (T := TX5) (N := 6) hx hb hts i_RX5 hown hK hP 0 rfl rfl 0 (Nat.le_of_ble_eq_true rfl) fl_11 (fun _ h9 => h9) rfl dX5_step_66 ?_
      refine lv_aload_n (pc := 69) hx hb dX5_step_69 rfl (lv_at hl 0 rfl) ?_
      refine va_get (pc := 70) (D := E.1) (ci := 3) (v := .int w.2.2.2.2.1) (C := RX5) (T := TX5) (N := 6) hx hb hts i_RX5 hown hK hP 0 rfl rfl 4 (Nat.le_of_ble_eq_true rfl) fl_19 (fun _ h9 => h9) rfl dX5_step_70 ?_
      obtain ⟨h_3, hq⟩ := pv_gd_some hq
      refine va_iald (pc := 73) (D := E.1) hx hb hK hP 1 0 rfl rfl h_3 dX5_step_73 ?_
      refine pv_sRO (pc := 74) (rest := []) (st1 := [.int (m_X5_isLetter (w.1 w.2.2.2.2.1.toNatClampNeg))]) (ws := pv_wP E q0 q1 (w.1, w.2.1, w.2.2.1, w.2.2.2.2.1, w.2.2.2.2.1, w.2.2.2.2.2)) [.int (w.1 w.2.2.2.2.1.toNatClampNeg)] ⟨hx, hb, hml, hown, hts⟩ hE hA hS hP (hD (w.1, w.2.1, w.2.2.1, w.2.2.2.2.1, w.2.2.2.2.1, w.2.2.2.2.2)) (c_X5_isLetter l E (w.1 w.2.2.2.2.1.toNatClampNeg)) (va_cwS 1 hts gX5_step_X5_isLetter rfl rfl rfl (by decide +kernel) ⟨(Nat.le_of_ble_eq_true rfl), (Nat.le_of_ble_eq_true rfl)⟩) [] rfl rfl rfl hl.1 rfl rfl (Nat.le_of_ble_eq_true rfl) dX5_step_74 ⟨Nat.zero_le _, Nat.zero_le _⟩ (fun locs hS => ?_)
      refine lv_if_eq (pc := 77) (tgt := 87) hx hb dX5_step_77 (by decide) (fun c_4 => ?_) (fun c_4 => ?_)
      · have hq := pv_pos c_4 hq
        refine lv_aload_n (pc := 87) hx hb dX5_step_87 rfl (lv_at hl 0 rfl) ?_
        refine va_get (pc := 88) (D := E.1) (ci := 3) (v := .ref q1) (C := RX5) (T := TX5) (N := 6) hx hb hts i_RX5 hown hK hP 0 rfl rfl 0 (Nat.le_of_ble_eq_true rfl) fl_11 (fun _ h9 => h9) rfl dX5_step_88 ?_
        refine lv_aload_n (pc := 91) hx hb dX5_step_91 rfl (lv_at hl 0 rfl) ?_
        refine va_get (pc := 92) (D := E.1) (ci := 3) (v := .int w.2.2.2.2.1) (C := RX5) (T := TX5) (N := 6) hx hb hts i_RX5 hown hK hP 0 rfl rfl 4 (Nat.le_of_ble_eq_true rfl) fl_19 (fun _ h9 => h9) rfl dX5_step_92 ?_
        obtain ⟨h_5, hq⟩ := pv_gd_some hq
        refine va_iald (pc := 95) (D := E.1) hx hb hK hP 1 0 rfl rfl h_5 dX5_step_95 ?_
        refine pv_sRO (pc := 96) (rest := []) (st1 := [.int (m_X5_isDigit (w.1 w.2.2.2.2.1.toNatClampNeg))]) (ws := pv_wP E q0 q1 (w.1, w.2.1, w.2.2.1, w.2.2.2.2.1, w.2.2.2.2.1, w.2.2.2.2.2)) [.int (w.1 w.2.2.2.2.1.toNatClampNeg)] ⟨hx, hb, hml, hown, hts⟩ hE hA hS hP (hD (w.1, w.2.1, w.2.2.1, w.2.2.2.2.1, w.2.2.2.2.1, w.2.2.2.2.2)) (c_X5_isDigit l E (w.1 w.2.2.2.2.1.toNatClampNeg)) (va_cwS 1 hts gX5_step_X5_isDigit rfl rfl rfl (by decide +kernel) ⟨(Nat.le_of_ble_eq_true rfl), (Nat.le_of_ble_eq_true rfl)⟩) [] rfl rfl rfl hl.1 rfl rfl (Nat.le_of_ble_eq_true rfl) dX5_step_96 ⟨Nat.zero_le _, Nat.zero_le _⟩ (fun locs hS => ?_)
        refine lv_if_eq (pc := 99) (tgt := 109) hx hb dX5_step_99 (by decide) (fun c_6 => ?_) (fun c_6 => ?_)
        · have hq := pv_pos c_6 hq
          refine lv_aload_n (pc := 109) hx hb dX5_step_109 rfl (lv_at hl 0 rfl) ?_
          refine lv_aload_n (pc := 110) hx hb dX5_step_110 rfl (lv_at hl 0 rfl) ?_
          refine va_get (pc := 111) (D := E.1) (ci := 3) (v := .ref q1) (C := RX5) (T := TX5) (N := 6) hx hb hts i_RX5 hown hK hP 0 rfl rfl 0 (Nat.le_of_ble_eq_true rfl) fl_11 (fun _ h9 => h9) rfl dX5_step_111 ?_
          refine lv_aload_n (pc := 114) hx hb dX5_step_114 rfl (lv_at hl 0 rfl) ?_
          refine va_get (pc := 115) (D := E.1) (ci := 3) (v := .int w.2.2.2.2.1) (C := RX5) (T := TX5) (N := 6) hx hb hts i_RX5 hown hK hP 0 rfl rfl 4 (Nat.le_of_ble_eq_true rfl) fl_19 (fun _ h9 => h9) rfl dX5_step_115 ?_
          obtain ⟨h_7, hq⟩ := pv_gd_some hq
          refine va_iald (pc := 118) (D := E.1) hx hb hK hP 1 0 rfl rfl h_7 dX5_step_118 ?_
          refine lv_bipush (pc := 119) (v := 59) hx hb dX5_step_119 (by decide) ?_
          refine lv_icmp_ne (pc := 121) (tgt := 128) hx hb dX5_step_121 (by decide) (fun c_8 => ?_) (fun c_8 => ?_)
          · have hq := pv_neg c_8 hq
            refine lv_iconst (pc := 128) (v := 4) hx hb dX5_step_128 (by decide) ?_
            exact B_129 4 (w.1, w.2.1, w.2.2.1, w.2.2.2.2.1, w.2.2.2.2.1, w.2.2.2.2.2) H locs ls hP hS (lv_sub hl [0] rfl) hq
          · have hq := pv_pos c_8 hq
            refine lv_iconst (pc := 124) (v := 3) hx hb dX5_step_124 (by decide) ?_
            refine lv_goto (pc := 125) (tgt := 129) hx hb dX5_step_125 (by decide) ?_
            exact B_129 3 (w.1, w.2.1, w.2.2.1, w.2.2.2.2.1, w.2.2.2.2.1, w.2.2.2.2.2) H locs ls hP hS (lv_sub hl [0] rfl) hq
        · have hq := pv_neg c_6 hq
          refine lv_aload_n (pc := 102) hx hb dX5_step_102 rfl (lv_at hl 0 rfl) ?_
          obtain ⟨u_9, hu_9, hq⟩ := pv_bind hq
          refine pv_vRWf (pc := 103) (rest := []) (st1 := []) (ws := pv_wP E q0 q1 (w.1, w.2.1, w.2.2.1, w.2.2.2.2.1, w.2.2.2.2.1, w.2.2.2.2.2)) [] ⟨hx, hb, hml, hown, hts⟩ hE hA hS hP (hD (w.1, w.2.1, w.2.2.1, w.2.2.2.2.1, w.2.2.2.2.1, w.2.2.2.2.2)) (c_X5_stepNumber l E q0 q1 (w.1, w.2.1, w.2.2.1, w.2.2.2.2.1, w.2.2.2.2.1, w.2.2.2.2.2) u_9 hu_9) (cwV 0 hts gX5_step_X5_stepNumber rfl rfl rfl (by decide +kernel) ⟨(Nat.le_of_ble_eq_true rfl), (Nat.le_of_ble_eq_true rfl)⟩) (va_recv hK hP (ci := 3) (q0 := 0) rfl rfl) rfl hl.1 rfl rfl (Nat.le_of_ble_eq_true rfl) dX5_step_103 ⟨Nat.zero_le _, Nat.zero_le _⟩ (fun H locs hP hS => ?_)
          have hP : va_P E.1 vwCl (pv_wP E q0 q1 u_9) H := hP
          refine lv_goto (pc := 106) (tgt := 142) hx hb dX5_step_106 (by decide) ?_
          exact pv_rvRW (w := fun w : pv_PT => pv_wP E q0 q1 w) hx hb hr hlk hAe hS hP (Option.some.inj hq) dX5_step_142
      · have hq := pv_neg c_4 hq
        refine lv_aload_n (pc := 80) hx hb dX5_step_80 rfl (lv_at hl 0 rfl) ?_
        obtain ⟨u_10, hu_10, hq⟩ := pv_bind hq
        refine pv_vRWf (pc := 81) (rest := []) (st1 := []) (ws := pv_wP E q0 q1 (w.1, w.2.1, w.2.2.1, w.2.2.2.2.1, w.2.2.2.2.1, w.2.2.2.2.2)) [] ⟨hx, hb, hml, hown, hts⟩ hE hA hS hP (hD (w.1, w.2.1, w.2.2.1, w.2.2.2.2.1, w.2.2.2.2.1, w.2.2.2.2.2)) (c_X5_stepWord l E q0 q1 (w.1, w.2.1, w.2.2.1, w.2.2.2.2.1, w.2.2.2.2.1, w.2.2.2.2.2) u_10 hu_10) (cwV 0 hts gX5_step_X5_stepWord rfl rfl rfl (by decide +kernel) ⟨(Nat.le_of_ble_eq_true rfl), (Nat.le_of_ble_eq_true rfl)⟩) (va_recv hK hP (ci := 3) (q0 := 0) rfl rfl) rfl hl.1 rfl rfl (Nat.le_of_ble_eq_true rfl) dX5_step_81 ⟨Nat.zero_le _, Nat.zero_le _⟩ (fun H locs hP hS => ?_)
        have hP : va_P E.1 vwCl (pv_wP E q0 q1 u_10) H := hP
        refine lv_goto (pc := 84) (tgt := 142) hx hb dX5_step_84 (by decide) ?_
        exact pv_rvRW (w := fun w : pv_PT => pv_wP E q0 q1 w) hx hb hr hlk hAe hS hP (Option.some.inj hq) dX5_step_142
    · have hq := pv_neg c_2 hq
      refine lv_aload_n (pc := 57) hx hb dX5_step_57 rfl (lv_at hl 0 rfl) ?_
      refine lv_iconst (pc := 58) (v := 0) hx hb dX5_step_58 (by decide) ?_
      refine va_put (pc := 59) (D := E.1) (ci := 3) (v := .int 0) (ty := .int) (C := RX5) (T := TX5) (N := 6) hx hb hts i_RX5 tyX5 tyX5_ok nmX5 hown hK hP (hD (w.1, w.2.1, w.2.2.1, w.2.2.2.2.1, w.2.2.2.2.1, w.2.2.2.2.2)) hS 0 rfl rfl 2 (Nat.le_of_ble_eq_true rfl) fl_32 (fun _ h9 => h9) rfl (tyX5_ok 2 (Nat.le_of_ble_eq_true rfl)) rfl rfl (Nat.le_of_ble_eq_true rfl) dX5_step_59 (fun H locs hP _ hS => ?_)
      have hP : va_P E.1 vwCl (pv_wP E q0 q1 (w.1, w.2.1, 0, w.2.2.2.2.1, w.2.2.2.2.1, w.2.2.2.2.2)) H := hP
      refine lv_goto (pc := 62) (tgt := 142) hx hb dX5_step_62 (by decide) ?_
      exact pv_rvRW (w := fun w : pv_PT => pv_wP E q0 q1 w) hx hb hr hlk hAe hS hP (Option.some.inj hq) dX5_step_142
  have L_0 : ∀ n : Nat, ∀  (w : pv_PT) (H : Heap) (locs : List Loc) (ls : Array Slot), va_P E.1 vwCl (pv_wP E q0 q1 w) H → va_S A s.heap H locs → lv_has ls 1 [(0, .ref q0)] → m_X5_step_0 n w = some F → W p l e r_X5_step s m args below meth c H locs 0 0 (MQ below (pv_Rw E (pv_wP E q0 q1 w0) sz (none) ((fun w : pv_PT => pv_wP E q0 q1 w) F)) args s 0 0 A) (F0 m 0 ls []) := by
    intro n
    induction n with
    | zero =>
      intro w H locs ls hP hS hl hq
      exact (pv_no hq).elim
    | succ n ih =>
      intro w H locs ls hP hS hl hq
      refine lv_aload_n (pc := 0) hx hb dX5_step_0 rfl (lv_at hl 0 rfl) ?_
      refine va_get (pc := 1) (D := E.1) (ci := 3) (v := .int w.2.2.2.2.1) (C := RX5) (T := TX5) (N := 6) hx hb hts i_RX5 hown hK hP 0 rfl rfl 4 (Nat.le_of_ble_eq_true rfl) fl_19 (fun _ h9 => h9) rfl dX5_step_1 ?_
      refine lv_aload_n (pc := 4) hx hb dX5_step_4 rfl (lv_at hl 0 rfl) ?_
      refine va_get (pc := 5) (D := E.1) (ci := 3) (v := .int w.2.1) (C := RX5) (T := TX5) (N := 6) hx hb hts i_RX5 hown hK hP 0 rfl rfl 1 (Nat.le_of_ble_eq_true rfl) fl_15 (fun _ h9 => h9) rfl dX5_step_5 ?_
      refine lv_icmp_ge (pc := 8) (tgt := 38) hx hb dX5_step_8 (by decide) (fun c_1 => ?_) (fun c_1 => ?_)
      · have hq := pv_pos c_1 hq
        exact B_38 w H locs ls hP hS (lv_sub hl [0] rfl) hq
      · have hq := pv_neg c_1 hq
        refine lv_aload_n (pc := 11) hx hb dX5_step_11 rfl (lv_at hl 0 rfl) ?_
        refine va_get (pc := 12) (D := E.1) (ci := 3) (v := .ref q1) (C := RX5) (T := TX5) (N := 6) hx hb hts i_RX5 hown hK hP 0 rfl rfl 0 (Nat.le_of_ble_eq_true rfl) fl_11 (fun _ h9 => h9) rfl dX5_step_12 ?_
        refine lv_aload_n (pc := 15) hx hb dX5_step_15 rfl (lv_at hl 0 rfl) ?_
        refine va_get (pc := 16) (D := E.1) (ci := 3) (v := .int w.2.2.2.2.1) (C := RX5) (T := TX5) (N := 6) hx hb hts i_RX5 hown hK hP 0 rfl rfl 4 (Nat.le_of_ble_eq_true rfl) fl_19 (fun _ h9 => h9) rfl dX5_step_16 ?_
        obtain ⟨h_11, hq⟩ := pv_gd_some hq
        refine va_iald (pc := 19) (D := E.1) hx hb hK hP 1 0 rfl rfl h_11 dX5_step_19 ?_
        refine lv_bipush (pc := 20) (v := 32) hx hb dX5_step_20 (by decide) ?_
        refine lv_icmp_ne (pc := 22) (tgt := 38) hx hb dX5_step_22 (by decide) (fun c_12 => ?_) (fun c_12 => ?_)
        · have hq := pv_neg c_12 hq
          exact B_38 w H locs ls hP hS (lv_sub hl [0] rfl) hq
        · have hq := pv_pos c_12 hq
          refine lv_aload_n (pc := 25) hx hb dX5_step_25 rfl (lv_at hl 0 rfl) ?_
          refine lv_dup (pc := 26) hx hb dX5_step_26 rfl ?_
          refine va_get (pc := 27) (D := E.1) (ci := 3) (v := .int w.2.2.2.2.1) (C := RX5) (T := TX5) (N := 6) hx hb hts i_RX5 hown hK hP 0 rfl rfl 4 (Nat.le_of_ble_eq_true rfl) fl_19 (fun _ h9 => h9) rfl dX5_step_27 ?_
          refine lv_iconst (pc := 30) (v := 1) hx hb dX5_step_30 (by decide) ?_
          refine lv_iadd (pc := 31) hx hb dX5_step_31 ?_
          refine va_put (pc := 32) (D := E.1) (ci := 3) (v := .int (w.2.2.2.2.1 + 1)) (ty := .int) (C := RX5) (T := TX5) (N := 6) hx hb hts i_RX5 tyX5 tyX5_ok nmX5 hown hK hP (hD w) hS 0 rfl rfl 4 (Nat.le_of_ble_eq_true rfl) fl_19 (fun _ h9 => h9) rfl (tyX5_ok 4 (Nat.le_of_ble_eq_true rfl)) rfl rfl (Nat.le_of_ble_eq_true rfl) dX5_step_32 (fun H locs hP _ hS => ?_)
          have hP : va_P E.1 vwCl (pv_wP E q0 q1 (w.1, w.2.1, w.2.2.1, w.2.2.2.1, (w.2.2.2.2.1 + 1), w.2.2.2.2.2)) H := hP
          refine lv_goto (pc := 35) (tgt := 0) hx hb dX5_step_35 (by decide) ?_
          exact ih (w.1, w.2.1, w.2.2.1, w.2.2.2.1, (w.2.2.2.2.1 + 1), w.2.2.2.2.2) H locs ls hP hS (lv_sub hl [0] rfl) hq
  suffices M0 : ∀ (H : Heap) (locs : List Loc), va_P E.1 vwCl (pv_wP E q0 q1 w0) H → va_S A s.heap H locs → W p l e r_X5_step s m args below meth c H locs 0 0 (MQ below (pv_Rw E (pv_wP E q0 q1 w0) sz (none) ((fun w : pv_PT => pv_wP E q0 q1 w) F)) args s 0 0 A) (F0 m 0 ls []) from M0 s.heap [] hP hS
  intro H locs hP hS
  exact L_0 300 w0 H locs ls hP hS (lv_sub hl [0] rfl) hq
def m_X5_isWord_28 : Nat → Int32 → Nat → pv_PT → Option (Int32)
  | 0 => fun _ _ _ => none
  | n + 1 => fun x2 x1 w =>
    Option.bind (m_J0_length_8abf5 x1) fun u_4 => (if u_4 ≤ x2 then (some 1) else (pv_gd (w.2.2.2.1 + x2) 120 (Option.bind (m_J0_charAt_5068e x1 x2) fun u_7 => (if (w.1 (w.2.2.2.1 + x2).toNatClampNeg) = u_7 then ((m_X5_isWord_28 n) (x2 + 1) x1 w) else (some 0)))))
def m_X5_isWord (x1 : Nat) (w : pv_PT) : Option (Int32) :=
  if w.2.2.1 = 1 then (Option.bind (m_J0_length_8abf5 x1) fun u_2 => (if (w.2.2.2.2.1 - w.2.2.2.1) = u_2 then (m_X5_isWord_28 300 0 x1 w) else (some 0))) else (some 0)
abbrev r_X5_isWord : Room := { frames := 4, cells := 0, slots := 0, locals := 85 }
set_option maxHeartbeats 4000000 in
set_option maxRecDepth 100000 in
theorem c_X5_isWord (l : Launch) (E : pv_E) (q0 q1 : Nat) (x1 : Nat) (w : pv_PT) (F : Int32) (hq : m_X5_isWord x1 w = some F) : pv_RO l E yX5_isWord wsX5_isWord r_X5_isWord (pv_wP E q0 q1 w) [.ref q0, .ref (pv_k E x1)] (some (.int F)) := by
  intro sz
  refine pv_mk (by decide) rfl (Nat.le_of_ble_eq_true rfl) ?_
  intro p e s m args below meth c A hx hb hr hml hown hts hlk hAe hP hD0 hA hE hS ls hl
  have hown : s.vm.findClass RX5 = some m.cls := hown
  have hK := hE.1
  have hD := hD0
  have fl_32 : (Cond.fieldLink RX5 32 "ProvinceCards$Tape" "token" "I").before args s = true := hts _ (by decide +kernel)
  have fl_19 : (Cond.fieldLink RX5 19 "ProvinceCards$Tape" "place" "I").before args s = true := hts _ (by decide +kernel)
  have fl_29 : (Cond.fieldLink RX5 29 "ProvinceCards$Tape" "start" "I").before args s = true := hts _ (by decide +kernel)
  have fl_11 : (Cond.fieldLink RX5 11 "ProvinceCards$Tape" "bytes" "[I").before args s = true := hts _ (by decide +kernel)
  have i_RX5 : ∀ w ∈ wsX50, w ∈ wsX5_isWord := by decide +kernel
  have hl : lv_has ls 3 [(0, .ref q0), (1, .ref (pv_k E x1))] := hl
  have L_28 : ∀ n : Nat, ∀ (x2 : Int32) (x1 : Nat) (locs : List Loc) (ls : Array Slot), va_S A s.heap s.heap locs → lv_has ls 3 [(0, .ref q0), (1, .ref (pv_k E x1)), (2, .int x2)] → m_X5_isWord_28 n x2 x1 w = some F → W p l e r_X5_isWord s m args below meth c s.heap locs 0 0 (MQ below (pv_Ro (some (.int F))) args s 0 0 A) (F0 m 28 ls []) := by
    intro n
    induction n with
    | zero =>
      intro x2 x1 locs ls hS hl hq
      exact (pv_no hq).elim
    | succ n ih =>
      intro x2 x1 locs ls hS hl hq
      refine lv_iload_n (pc := 28) hx hb dX5_isWord_28 rfl (lv_at hl 2 rfl) ?_
      refine lv_aload_n (pc := 29) hx hb dX5_isWord_29 rfl (lv_at hl 1 rfl) ?_
      obtain ⟨u_5, hu_5, hq⟩ := pv_bind hq
      have hs_6 := pv_lt_J0_length_8abf5 hu_5
      refine pv_vRO (pc := 30) (rest := [.int x2]) (st1 := [.int u_5, .int x2]) (ws := pv_wP E q0 q1 w) [] ⟨hx, hb, hml, hown, hts⟩ hE hA hS hP hD (c_J0_length_8abf5 l E x1 u_5 hu_5) (cwV 0 hts gX5_isWord_J0_length_8abf5 rfl rfl rfl (by decide +kernel) ⟨(Nat.le_of_ble_eq_true rfl), (Nat.le_of_ble_eq_true rfl)⟩) (vk_recv hE.2.2.2.2.2.2.1 hs_6 hS) [] rfl rfl rfl hl.1 rfl rfl (Nat.le_of_ble_eq_true rfl) dX5_isWord_30 ⟨Nat.zero_le _, Nat.zero_le _⟩ (fun locs hS => ?_)
      refine lv_icmp_ge (pc := 33) (tgt := 63) hx hb dX5_isWord_33 (by decide) (fun c_7 => ?_) (fun c_7 => ?_)
      · have hq := pv_pos c_7 hq
        refine lv_iconst (pc := 63) (v := 1) hx hb dX5_isWord_63 (by decide) ?_
        exact pv_rzRO hx hb hr hlk hS (Option.some.inj hq) rfl dX5_isWord_64
      · have hq := pv_neg c_7 hq
        refine lv_aload_n (pc := 36) hx hb dX5_isWord_36 rfl (lv_at hl 0 rfl) ?_
        refine va_get (pc := 37) (D := E.1) (ci := 3) (v := .ref q1) (C := RX5) (T := TX5) (N := 6) hx hb hts i_RX5 hown hK hP 0 rfl rfl 0 (Nat.le_of_ble_eq_true rfl) fl_11 (fun _ h9 => h9) rfl dX5_isWord_37 ?_
        refine lv_aload_n (pc := 40) hx hb dX5_isWord_40 rfl (lv_at hl 0 rfl) ?_
        refine va_get (pc := 41) (D := E.1) (ci := 3) (v := .int w.2.2.2.1) (C := RX5) (T := TX5) (N := 6) hx hb hts i_RX5 hown hK hP 0 rfl rfl 3 (Nat.le_of_ble_eq_true rfl) fl_29 (fun _ h9 => h9) rfl dX5_isWord_41 ?_
        refine lv_iload_n (pc := 44) hx hb dX5_isWord_44 rfl (lv_at hl 2 rfl) ?_
        refine lv_iadd (pc := 45) hx hb dX5_isWord_45 ?_
        obtain ⟨h_8, hq⟩ := pv_gd_some hq
        refine va_iald (pc := 46) (D := E.1) hx hb hK hP 1 0 rfl rfl h_8 dX5_isWord_46 ?_
        refine lv_aload_n (pc := 47) hx hb dX5_isWord_47 rfl (lv_at hl 1 rfl) ?_
        refine lv_iload_n (pc := 48) hx hb dX5_isWord_48 rfl (lv_at hl 2 rfl) ?_
        obtain ⟨u_9, hu_9, hq⟩ := pv_bind hq
        have hs_10 := pv_lt_J0_charAt_5068e hu_9
        refine pv_vRO (pc := 49) (rest := [.int (w.1 (w.2.2.2.1 + x2).toNatClampNeg)]) (st1 := [.int u_9, .int (w.1 (w.2.2.2.1 + x2).toNatClampNeg)]) (ws := pv_wP E q0 q1 w) [.int x2] ⟨hx, hb, hml, hown, hts⟩ hE hA hS hP hD (c_J0_charAt_5068e l E x1 x2 u_9 hu_9) (cwV 1 hts gX5_isWord_J0_charAt_5068e rfl rfl rfl (by decide +kernel) ⟨(Nat.le_of_ble_eq_true rfl), (Nat.le_of_ble_eq_true rfl)⟩) (vk_recv hE.2.2.2.2.2.2.1 hs_10 hS) [] rfl rfl rfl hl.1 rfl rfl (Nat.le_of_ble_eq_true rfl) dX5_isWord_49 ⟨Nat.zero_le _, Nat.zero_le _⟩ (fun locs hS => ?_)
        refine lv_icmp_eq (pc := 52) (tgt := 57) hx hb dX5_isWord_52 (by decide) (fun c_11 => ?_) (fun c_11 => ?_)
        · have hq := pv_pos c_11 hq
          refine lv_iinc (pc := 57) (v := (x2 + 1)) (lv' := [(2, .int (x2 + 1)), (0, .ref q0), (1, .ref (pv_k E x1))]) hx hb dX5_isWord_57 hl (k := 2) rfl rfl (Nat.le_of_ble_eq_true rfl) rfl (fun ls hl => ?_)
          refine lv_goto (pc := 60) (tgt := 28) hx hb dX5_isWord_60 (by decide) ?_
          exact ih (x2 + 1) x1 locs ls hS (lv_sub hl [1, 2, 0] rfl) hq
        · have hq := pv_neg c_11 hq
          refine lv_iconst (pc := 55) (v := 0) hx hb dX5_isWord_55 (by decide) ?_
          exact pv_rzRO hx hb hr hlk hS (Option.some.inj hq) rfl dX5_isWord_56
  suffices M0 : ∀ (locs : List Loc), va_S A s.heap s.heap locs → W p l e r_X5_isWord s m args below meth c s.heap locs 0 0 (MQ below (pv_Ro (some (.int F))) args s 0 0 A) (F0 m 0 ls []) from M0 [] hS
  intro locs hS
  refine lv_aload_n (pc := 0) hx hb dX5_isWord_0 rfl (lv_at hl 0 rfl) ?_
  refine va_get (pc := 1) (D := E.1) (ci := 3) (v := .int w.2.2.1) (C := RX5) (T := TX5) (N := 6) hx hb hts i_RX5 hown hK hP 0 rfl rfl 2 (Nat.le_of_ble_eq_true rfl) fl_32 (fun _ h9 => h9) rfl dX5_isWord_1 ?_
  refine lv_iconst (pc := 4) (v := 1) hx hb dX5_isWord_4 (by decide) ?_
  refine lv_icmp_ne (pc := 5) (tgt := 24) hx hb dX5_isWord_5 (by decide) (fun c_1 => ?_) (fun c_1 => ?_)
  · have hq := pv_neg c_1 hq
    refine lv_iconst (pc := 24) (v := 0) hx hb dX5_isWord_24 (by decide) ?_
    exact pv_rzRO hx hb hr hlk hS (Option.some.inj hq) rfl dX5_isWord_25
  · have hq := pv_pos c_1 hq
    refine lv_aload_n (pc := 8) hx hb dX5_isWord_8 rfl (lv_at hl 0 rfl) ?_
    refine va_get (pc := 9) (D := E.1) (ci := 3) (v := .int w.2.2.2.2.1) (C := RX5) (T := TX5) (N := 6) hx hb hts i_RX5 hown hK hP 0 rfl rfl 4 (Nat.le_of_ble_eq_true rfl) fl_19 (fun _ h9 => h9) rfl dX5_isWord_9 ?_
    refine lv_aload_n (pc := 12) hx hb dX5_isWord_12 rfl (lv_at hl 0 rfl) ?_
    refine va_get (pc := 13) (D := E.1) (ci := 3) (v := .int w.2.2.2.1) (C := RX5) (T := TX5) (N := 6) hx hb hts i_RX5 hown hK hP 0 rfl rfl 3 (Nat.le_of_ble_eq_true rfl) fl_29 (fun _ h9 => h9) rfl dX5_isWord_13 ?_
    refine lv_isub (pc := 16) hx hb dX5_isWord_16 ?_
    refine lv_aload_n (pc := 17) hx hb dX5_isWord_17 rfl (lv_at hl 1 rfl) ?_
    obtain ⟨u_2, hu_2, hq⟩ := pv_bind hq
    have hs_3 := pv_lt_J0_length_8abf5 hu_2
    refine pv_vRO (pc := 18) (rest := [.int (w.2.2.2.2.1 - w.2.2.2.1)]) (st1 := [.int u_2, .int (w.2.2.2.2.1 - w.2.2.2.1)]) (ws := pv_wP E q0 q1 w) [] ⟨hx, hb, hml, hown, hts⟩ hE hA hS hP hD (c_J0_length_8abf5 l E x1 u_2 hu_2) (cwV 0 hts gX5_isWord_J0_length_8abf5 rfl rfl rfl (by decide +kernel) ⟨(Nat.le_of_ble_eq_true rfl), (Nat.le_of_ble_eq_true rfl)⟩) (vk_recv hE.2.2.2.2.2.2.1 hs_3 hS) [] rfl rfl rfl hl.1 rfl rfl (Nat.le_of_ble_eq_true rfl) dX5_isWord_18 ⟨Nat.zero_le _, Nat.zero_le _⟩ (fun locs hS => ?_)
    refine lv_icmp_eq (pc := 21) (tgt := 26) hx hb dX5_isWord_21 (by decide) (fun c_4 => ?_) (fun c_4 => ?_)
    · have hq := pv_pos c_4 hq
      refine lv_iconst (pc := 26) (v := 0) hx hb dX5_isWord_26 (by decide) ?_
      refine lv_istore_n (pc := 27) (lv' := [(2, .int 0), (0, .ref q0), (1, .ref (pv_k E x1))]) hx hb dX5_isWord_27 rfl hl (Nat.le_of_ble_eq_true rfl) rfl (fun ls hl => ?_)
      exact L_28 300 0 x1 locs ls hS (lv_sub hl [1, 2, 0] rfl) hq
    · have hq := pv_neg c_4 hq
      refine lv_iconst (pc := 24) (v := 0) hx hb dX5_isWord_24 (by decide) ?_
      exact pv_rzRO hx hb hr hlk hS (Option.some.inj hq) rfl dX5_isWord_25
def m_X5_takesEnvoy (x2 : Int32) (w : pv_PT × pv_TT) : Option (Int32 × pv_PT × pv_TT) :=
  Option.bind (m_X4_seat x2 w.2) fun u_1 => (if u_1.1 = (-1) then (some (0, (w.1, u_1.2))) else (Option.bind (m_X5_step w.1) fun u_3 => (Option.bind (m_X5_isWord 6 u_3) fun u_4 => (if u_4 = 0 then (some (1, (u_3, u_1.2))) else (Option.bind (m_X5_step u_3) fun u_6 => (if u_6.2.2.1 = 2 then (if (m_X6_isState u_6.2.2.2.2.2) = 0 then (some (0, (u_6, u_1.2))) else (pv_gd u_6.2.2.2.2.2 2 (Option.bind (m_X5_step u_6) fun u_10 => (some (1, (u_10, (u_1.2.1, u_1.2.2.1, u_1.2.2.2.1, u_1.2.2.2.2.1, u_1.2.2.2.2.2.1, (upd u_1.2.2.2.2.2.2.1 u_6.2.2.2.2.2.toNatClampNeg u_1.1), u_1.2.2.2.2.2.2.2.1, u_1.2.2.2.2.2.2.2.2))))))) else (some (0, (u_6, u_1.2)))))))))
abbrev r_X5_takesEnvoy : Room := { frames := 5, cells := 0, slots := 0, locals := 107 }
set_option maxHeartbeats 4000000 in
set_option maxRecDepth 100000 in
theorem c_X5_takesEnvoy (l : Launch) (E : pv_E) (q0 q1 a0 a1 a2 a3 a4 a5 : Nat) (x2 : Int32) (w0 : pv_PT × pv_TT) (F : Int32 × pv_PT × pv_TT) (hq : m_X5_takesEnvoy x2 w0 = some F) : pv_RW l E yX5_takesEnvoy wsX5_takesEnvoy r_X5_takesEnvoy (pv_wP E q0 q1 w0.1 ++ pv_wT E a0 a1 a2 a3 a4 a5 w0.2) [.ref q0, .ref a0, .int x2] (some (.int F.1)) (pv_wP E q0 q1 F.2.1 ++ pv_wT E a0 a1 a2 a3 a4 a5 F.2.2) := by
  intro sz
  refine pv_mk (by decide) rfl (Nat.le_of_ble_eq_true rfl) ?_
  intro p e s m args below meth c A hx hb hr hml hown hts hlk hAe hP hD0 hA hE hS ls hl
  have hown : s.vm.findClass RX5 = some m.cls := hown
  have hK := hE.1
  have hD : ∀ w : pv_PT × pv_TT, va_D A (pv_wP E q0 q1 w.1 ++ pv_wT E a0 a1 a2 a3 a4 a5 w.2) := fun w => pv_Dm (ws := pv_wP E q0 q1 w0.1 ++ pv_wT E a0 a1 a2 a3 a4 a5 w0.2) (ws' := pv_wP E q0 q1 w.1 ++ pv_wT E a0 a1 a2 a3 a4 a5 w.2) rfl hD0
  have hP : va_P E.1 vwCl (pv_wP E q0 q1 w0.1 ++ pv_wT E a0 a1 a2 a3 a4 a5 w0.2) s.heap := hP
  have fl_32 : (Cond.fieldLink RX5 32 "ProvinceCards$Tape" "token" "I").before args s = true := hts _ (by decide +kernel)
  have fl_67 : (Cond.fieldLink RX5 67 "ProvinceCards$Tape" "value" "I").before args s = true := hts _ (by decide +kernel)
  have fl_74 : (Cond.fieldLink RX5 74 "ProvinceCards$Table" "sent" "[I").before args s = true := hts _ (by decide +kernel)
  have i_RX5 : ∀ w ∈ wsX50, w ∈ wsX5_takesEnvoy := by decide +kernel
  have ni_X6_isState : (Cond.initialized RX6).before args s = true := hts _ (by decide +kernel)
  have ns_X6_isState : (Cond.static yX6_isState).before args s = true := hts _ (by decide +kernel)
  have i_RX4 : ∀ w ∈ wsX40, w ∈ wsX5_takesEnvoy := by decide +kernel
  have hl : lv_has ls 4 [(0, .ref q0), (1, .ref a0), (2, .int x2)] := hl
  suffices M0 : ∀ (H : Heap) (locs : List Loc), va_P E.1 vwCl (pv_wP E q0 q1 w0.1 ++ pv_wT E a0 a1 a2 a3 a4 a5 w0.2) H → va_S A s.heap H locs → W p l e r_X5_takesEnvoy s m args below meth c H locs 0 0 (MQ below (pv_Rw E (pv_wP E q0 q1 w0.1 ++ pv_wT E a0 a1 a2 a3 a4 a5 w0.2) sz (some (.int F.1)) ((fun w : pv_PT × pv_TT => pv_wP E q0 q1 w.1 ++ pv_wT E a0 a1 a2 a3 a4 a5 w.2) F.2)) args s 0 0 A) (F0 m 0 ls []) from M0 s.heap [] hP hS
  intro H locs hP hS
  refine lv_aload_n (pc := 0) hx hb dX5_takesEnvoy_0 rfl (lv_at hl 1 rfl) ?_
  refine lv_iload_n (pc := 1) hx hb dX5_takesEnvoy_1 rfl (lv_at hl 2 rfl) ?_
  obtain ⟨u_1, hu_1, hq⟩ := pv_bind hq
  refine pv_vRW (pc := 2) (rest := []) (st1 := [.int u_1.1]) (ws := pv_wP E q0 q1 w0.1 ++ pv_wT E a0 a1 a2 a3 a4 a5 w0.2) (ws' := pv_wP E q0 q1 ((w0.1, u_1.2).1) ++ pv_wT E a0 a1 a2 a3 a4 a5 ((w0.1, u_1.2).2)) [.int x2] ⟨hx, hb, hml, hown, hts⟩ hE hA hS hP (hD w0) (c_X4_seat l E a0 a1 a2 a3 a4 a5 x2 w0.2 u_1 hu_1) (cwV 1 hts gX5_takesEnvoy_X4_seat rfl rfl rfl (by decide +kernel) ⟨(Nat.le_of_ble_eq_true rfl), (Nat.le_of_ble_eq_true rfl)⟩) (va_recv hK hP (ci := 2) (q0 := 2) rfl rfl) [2, 3, 4, 5, 6, 7] rfl rfl rfl rfl rfl hl.1 rfl rfl (Nat.le_of_ble_eq_true rfl) dX5_takesEnvoy_2 ⟨Nat.zero_le _, Nat.zero_le _⟩ (fun H locs hP hS => ?_)
  refine lv_istore_n (pc := 5) (lv' := [(3, .int u_1.1), (0, .ref q0), (1, .ref a0), (2, .int x2)]) hx hb dX5_takesEnvoy_5 rfl hl (Nat.le_of_ble_eq_true rfl) rfl (fun ls hl => ?_)
  refine lv_iload_n (pc := 6) hx hb dX5_takesEnvoy_6 rfl (lv_at hl 0 rfl) ?_
  refine lv_iconst (pc := 7) (v := (-1)) hx hb dX5_takesEnvoy_7 (by decide) ?_
  refine lv_icmp_ne (pc := 8) (tgt := 13) hx hb dX5_takesEnvoy_8 (by decide) (fun c_2 => ?_) (fun c_2 => ?_)
  · have hq := pv_neg c_2 hq
    refine lv_aload_n (pc := 13) hx hb dX5_takesEnvoy_13 rfl (lv_at hl 1 rfl) ?_
    obtain ⟨u_3, hu_3, hq⟩ := pv_bind hq
    refine pv_vRW (pc := 14) (rest := []) (st1 := []) (ws := pv_wP E q0 q1 ((w0.1, u_1.2).1) ++ pv_wT E a0 a1 a2 a3 a4 a5 ((w0.1, u_1.2).2)) (ws' := pv_wP E q0 q1 ((u_3, u_1.2).1) ++ pv_wT E a0 a1 a2 a3 a4 a5 ((u_3, u_1.2).2)) [] ⟨hx, hb, hml, hown, hts⟩ hE hA hS hP (hD (w0.1, u_1.2)) (c_X5_step l E q0 q1 w0.1 u_3 hu_3) (cwV 0 hts gX5_takesEnvoy_X5_step rfl rfl rfl (by decide +kernel) ⟨(Nat.le_of_ble_eq_true rfl), (Nat.le_of_ble_eq_true rfl)⟩) (va_recv hK hP (ci := 3) (q0 := 0) rfl rfl) [0, 1] rfl rfl rfl rfl rfl hl.1 rfl rfl (Nat.le_of_ble_eq_true rfl) dX5_takesEnvoy_14 ⟨Nat.zero_le _, Nat.zero_le _⟩ (fun H locs hP hS => ?_)
    refine lv_aload_n (pc := 17) hx hb dX5_takesEnvoy_17 rfl (lv_at hl 1 rfl) ?_
    refine va_ldcS (pc := 18) (own := RX5) (index := 65) hx hb hown (pv_str6 hE) dX5_takesEnvoy_18 ?_
    obtain ⟨u_4, hu_4, hq⟩ := pv_bind hq
    refine pv_vRO (pc := 20) (rest := []) (st1 := [.int u_4]) (ws := pv_wP E q0 q1 ((u_3, u_1.2).1) ++ pv_wT E a0 a1 a2 a3 a4 a5 ((u_3, u_1.2).2)) [.ref (pv_k E 6)] ⟨hx, hb, hml, hown, hts⟩ hE hA hS hP (hD (u_3, u_1.2)) (c_X5_isWord l E q0 q1 6 u_3 u_4 hu_4) (cwV 1 hts gX5_takesEnvoy_X5_isWord rfl rfl rfl (by decide +kernel) ⟨(Nat.le_of_ble_eq_true rfl), (Nat.le_of_ble_eq_true rfl)⟩) (va_recv hK hP (ci := 3) (q0 := 0) rfl rfl) [0, 1] rfl rfl rfl hl.1 rfl rfl (Nat.le_of_ble_eq_true rfl) dX5_takesEnvoy_20 ⟨Nat.zero_le _, Nat.zero_le _⟩ (fun locs hS => ?_)
    refine lv_if_ne (pc := 23) (tgt := 28) hx hb dX5_takesEnvoy_23 (by decide) (fun c_5 => ?_) (fun c_5 => ?_)
    · have hq := pv_neg c_5 hq
      refine lv_aload_n (pc := 28) hx hb dX5_takesEnvoy_28 rfl (lv_at hl 1 rfl) ?_
      obtain ⟨u_6, hu_6, hq⟩ := pv_bind hq
      refine pv_vRW (pc := 29) (rest := []) (st1 := []) (ws := pv_wP E q0 q1 ((u_3, u_1.2).1) ++ pv_wT E a0 a1 a2 a3 a4 a5 ((u_3, u_1.2).2)) (ws' := pv_wP E q0 q1 ((u_6, u_1.2).1) ++ pv_wT E a0 a1 a2 a3 a4 a5 ((u_6, u_1.2).2)) [] ⟨hx, hb, hml, hown, hts⟩ hE hA hS hP (hD (u_3, u_1.2)) (c_X5_step l E q0 q1 u_3 u_6 hu_6) (cwV 0 hts gX5_takesEnvoy_X5_step rfl rfl rfl (by decide +kernel) ⟨(Nat.le_of_ble_eq_true rfl), (Nat.le_of_ble_eq_true rfl)⟩) (va_recv hK hP (ci := 3) (q0 := 0) rfl rfl) [0, 1] rfl rfl rfl rfl rfl hl.1 rfl rfl (Nat.le_of_ble_eq_true rfl) dX5_takesEnvoy_29 ⟨Nat.zero_le _, Nat.zero_le _⟩ (fun H locs hP hS => ?_)
      refine lv_aload_n (pc := 32) hx hb dX5_takesEnvoy_32 rfl (lv_at hl 1 rfl) ?_
      refine va_get (pc := 33) (D := E.1) (ci := 3) (v := .int u_6.2.2.1) (C := RX5) (T := TX5) (N := 6) hx hb hts i_RX5 hown hK hP 0 rfl rfl 2 (Nat.le_of_ble_eq_true rfl) fl_32 (fun _ h9 => h9) rfl dX5_takesEnvoy_33 ?_
      refine lv_iconst (pc := 36) (v := 2) hx hb dX5_takesEnvoy_36 (by decide) ?_
      refine lv_icmp_ne (pc := 37) (tgt := 50) hx hb dX5_takesEnvoy_37 (by decide) (fun c_7 => ?_) (fun c_7 => ?_)
      · have hq := pv_neg c_7 hq
        refine lv_iconst (pc := 50) (v := 0) hx hb dX5_takesEnvoy_50 (by decide) ?_
        exact pv_rzRW (w := fun w : pv_PT × pv_TT => pv_wP E q0 q1 w.1 ++ pv_wT E a0 a1 a2 a3 a4 a5 w.2) hx hb hr hlk hAe hS hP (Option.some.inj hq) rfl dX5_takesEnvoy_51
      · have hq := pv_pos c_7 hq
        refine lv_aload_n (pc := 40) hx hb dX5_takesEnvoy_40 rfl (lv_at hl 1 rfl) ?_
        refine va_get (pc := 41) (D := E.1) (ci := 3) (v := .int u_6.2.2.2.2.2) (C := RX5) (T := TX5) (N := 6) hx hb hts i_RX5 hown hK hP 0 rfl rfl 5 (Nat.le_of_ble_eq_true rfl) fl_67 (fun _ h9 => h9) rfl dX5_takesEnvoy_41 ?_
        refine pv_sROn (pc := 44) (rest := []) (st1 := [.int (m_X6_isState u_6.2.2.2.2.2)]) (ws := pv_wP E q0 q1 ((u_6, u_1.2).1) ++ pv_wT E a0 a1 a2 a3 a4 a5 ((u_6, u_1.2).2)) [.int u_6.2.2.2.2.2] ⟨hx, hb, hml, hown, hts⟩ hE hA hS hP (hD (u_6, u_1.2)) (c_X6_isState l E u_6.2.2.2.2.2) ⟨va_cnB 1 hts gX5_takesEnvoy_X6_isState_n70 rfl rfl rfl (pv_nst1 hE) ni_X6_isState (by decide +kernel) ⟨(Nat.le_of_ble_eq_true rfl), (Nat.le_of_ble_eq_true rfl)⟩, ns_X6_isState⟩ [] rfl rfl rfl hl.1 rfl rfl (Nat.le_of_ble_eq_true rfl) dX5_takesEnvoy_44 ⟨Nat.zero_le _, Nat.zero_le _⟩ (fun locs hS => ?_)
        refine lv_if_ne (pc := 47) (tgt := 52) hx hb dX5_takesEnvoy_47 (by decide) (fun c_8 => ?_) (fun c_8 => ?_)
        · have hq := pv_neg c_8 hq
          refine lv_aload_n (pc := 52) hx hb dX5_takesEnvoy_52 rfl (lv_at hl 2 rfl) ?_
          refine va_get (pc := 53) (D := E.1) (ci := 2) (v := .ref a3) (C := RX4) (T := TX4) (N := 8) hx hb hts i_RX4 hown hK hP 2 rfl rfl 5 (Nat.le_of_ble_eq_true rfl) fl_74 (fun _ h9 => h9) rfl dX5_takesEnvoy_53 ?_
          refine lv_aload_n (pc := 56) hx hb dX5_takesEnvoy_56 rfl (lv_at hl 1 rfl) ?_
          refine va_get (pc := 57) (D := E.1) (ci := 3) (v := .int u_6.2.2.2.2.2) (C := RX5) (T := TX5) (N := 6) hx hb hts i_RX5 hown hK hP 0 rfl rfl 5 (Nat.le_of_ble_eq_true rfl) fl_67 (fun _ h9 => h9) rfl dX5_takesEnvoy_57 ?_
          refine lv_iload_n (pc := 60) hx hb dX5_takesEnvoy_60 rfl (lv_at hl 0 rfl) ?_
          obtain ⟨h_9, hq⟩ := pv_gd_some hq
          refine va_iast (pc := 61) (D := E.1) hx hb hK hP (hD (u_6, u_1.2)) hS 5 0 rfl rfl h_9 dX5_takesEnvoy_61 (fun H locs hP _ hS => ?_)
          have hP : va_P E.1 vwCl (pv_wP E q0 q1 ((u_6, (u_1.2.1, u_1.2.2.1, u_1.2.2.2.1, u_1.2.2.2.2.1, u_1.2.2.2.2.2.1, (upd u_1.2.2.2.2.2.2.1 u_6.2.2.2.2.2.toNatClampNeg u_1.1), u_1.2.2.2.2.2.2.2.1, u_1.2.2.2.2.2.2.2.2)).1) ++ pv_wT E a0 a1 a2 a3 a4 a5 ((u_6, (u_1.2.1, u_1.2.2.1, u_1.2.2.2.1, u_1.2.2.2.2.1, u_1.2.2.2.2.2.1, (upd u_1.2.2.2.2.2.2.1 u_6.2.2.2.2.2.toNatClampNeg u_1.1), u_1.2.2.2.2.2.2.2.1, u_1.2.2.2.2.2.2.2.2)).2)) H := hP
          refine lv_aload_n (pc := 62) hx hb dX5_takesEnvoy_62 rfl (lv_at hl 1 rfl) ?_
          obtain ⟨u_10, hu_10, hq⟩ := pv_bind hq
          refine pv_vRW (pc := 63) (rest := []) (st1 := []) (ws := pv_wP E q0 q1 ((u_6, (u_1.2.1, u_1.2.2.1, u_1.2.2.2.1, u_1.2.2.2.2.1, u_1.2.2.2.2.2.1, (upd u_1.2.2.2.2.2.2.1 u_6.2.2.2.2.2.toNatClampNeg u_1.1), u_1.2.2.2.2.2.2.2.1, u_1.2.2.2.2.2.2.2.2)).1) ++ pv_wT E a0 a1 a2 a3 a4 a5 ((u_6, (u_1.2.1, u_1.2.2.1, u_1.2.2.2.1, u_1.2.2.2.2.1, u_1.2.2.2.2.2.1, (upd u_1.2.2.2.2.2.2.1 u_6.2.2.2.2.2.toNatClampNeg u_1.1), u_1.2.2.2.2.2.2.2.1, u_1.2.2.2.2.2.2.2.2)).2)) (ws' := pv_wP E q0 q1 ((u_10, (u_1.2.1, u_1.2.2.1, u_1.2.2.2.1, u_1.2.2.2.2.1, u_1.2.2.2.2.2.1, (upd u_1.2.2.2.2.2.2.1 u_6.2.2.2.2.2.toNatClampNeg u_1.1), u_1.2.2.2.2.2.2.2.1, u_1.2.2.2.2.2.2.2.2)).1) ++ pv_wT E a0 a1 a2 a3 a4 a5 ((u_10, (u_1.2.1, u_1.2.2.1, u_1.2.2.2.1, u_1.2.2.2.2.1, u_1.2.2.2.2.2.1, (upd u_1.2.2.2.2.2.2.1 u_6.2.2.2.2.2.toNatClampNeg u_1.1), u_1.2.2.2.2.2.2.2.1, u_1.2.2.2.2.2.2.2.2)).2)) [] ⟨hx, hb, hml, hown, hts⟩ hE hA hS hP (hD (u_6, (u_1.2.1, u_1.2.2.1, u_1.2.2.2.1, u_1.2.2.2.2.1, u_1.2.2.2.2.2.1, (upd u_1.2.2.2.2.2.2.1 u_6.2.2.2.2.2.toNatClampNeg u_1.1), u_1.2.2.2.2.2.2.2.1, u_1.2.2.2.2.2.2.2.2))) (c_X5_step l E q0 q1 u_6 u_10 hu_10) (cwV 0 hts gX5_takesEnvoy_X5_step rfl rfl rfl (by decide +kernel) ⟨(Nat.le_of_ble_eq_true rfl), (Nat.le_of_ble_eq_true rfl)⟩) (va_recv hK hP (ci := 3) (q0 := 0) rfl rfl) [0, 1] rfl rfl rfl rfl rfl hl.1 rfl rfl (Nat.le_of_ble_eq_true rfl) dX5_takesEnvoy_63 ⟨Nat.zero_le _, Nat.zero_le _⟩ (fun H locs hP hS => ?_)
          refine lv_iconst (pc := 66) (v := 1) hx hb dX5_takesEnvoy_66 (by decide) ?_
          exact pv_rzRW (w := fun w : pv_PT × pv_TT => pv_wP E q0 q1 w.1 ++ pv_wT E a0 a1 a2 a3 a4 a5 w.2) hx hb hr hlk hAe hS hP (Option.some.inj hq) rfl dX5_takesEnvoy_67
        · have hq := pv_pos c_8 hq
          refine lv_iconst (pc := 50) (v := 0) hx hb dX5_takesEnvoy_50 (by decide) ?_
          exact pv_rzRW (w := fun w : pv_PT × pv_TT => pv_wP E q0 q1 w.1 ++ pv_wT E a0 a1 a2 a3 a4 a5 w.2) hx hb hr hlk hAe hS hP (Option.some.inj hq) rfl dX5_takesEnvoy_51
    · have hq := pv_pos c_5 hq
      refine lv_iconst (pc := 26) (v := 1) hx hb dX5_takesEnvoy_26 (by decide) ?_
      exact pv_rzRW (w := fun w : pv_PT × pv_TT => pv_wP E q0 q1 w.1 ++ pv_wT E a0 a1 a2 a3 a4 a5 w.2) hx hb hr hlk hAe hS hP (Option.some.inj hq) rfl dX5_takesEnvoy_27
  · have hq := pv_pos c_2 hq
    refine lv_iconst (pc := 11) (v := 0) hx hb dX5_takesEnvoy_11 (by decide) ?_
    exact pv_rzRW (w := fun w : pv_PT × pv_TT => pv_wP E q0 q1 w.1 ++ pv_wT E a0 a1 a2 a3 a4 a5 w.2) hx hb hr hlk hAe hS hP (Option.some.inj hq) rfl dX5_takesEnvoy_12
def m_X5_takesMix  (w : pv_PT × pv_TT) : Option (Int32 × pv_PT × pv_TT) :=
  Option.bind (m_X5_step w.1) fun u_1 => (if u_1.2.2.1 = 2 then (if (m_X6_isMix u_1.2.2.2.2.2) = 0 then (some (0, (u_1, w.2))) else (Option.bind (m_X5_step u_1) fun u_4 => (some (1, (u_4, (w.2.1, u_1.2.2.2.2.2, w.2.2.2.1, w.2.2.2.2.1, w.2.2.2.2.2.1, w.2.2.2.2.2.2.1, w.2.2.2.2.2.2.2.1, w.2.2.2.2.2.2.2.2)))))) else (some (0, (u_1, w.2))))
abbrev r_X5_takesMix : Room := { frames := 3, cells := 0, slots := 0, locals := 61 }
set_option maxHeartbeats 4000000 in
set_option maxRecDepth 100000 in
theorem c_X5_takesMix (l : Launch) (E : pv_E) (q0 q1 a0 a1 a2 a3 a4 a5 : Nat)  (w0 : pv_PT × pv_TT) (F : Int32 × pv_PT × pv_TT) (hq : m_X5_takesMix w0 = some F) : pv_RW l E yX5_takesMix wsX5_takesMix r_X5_takesMix (pv_wP E q0 q1 w0.1 ++ pv_wT E a0 a1 a2 a3 a4 a5 w0.2) [.ref q0, .ref a0] (some (.int F.1)) (pv_wP E q0 q1 F.2.1 ++ pv_wT E a0 a1 a2 a3 a4 a5 F.2.2) := by
  intro sz
  refine pv_mk (by decide) rfl (Nat.le_of_ble_eq_true rfl) ?_
  intro p e s m args below meth c A hx hb hr hml hown hts hlk hAe hP hD0 hA hE hS ls hl
  have hown : s.vm.findClass RX5 = some m.cls := hown
  have hK := hE.1
  have hD : ∀ w : pv_PT × pv_TT, va_D A (pv_wP E q0 q1 w.1 ++ pv_wT E a0 a1 a2 a3 a4 a5 w.2) := fun w => pv_Dm (ws := pv_wP E q0 q1 w0.1 ++ pv_wT E a0 a1 a2 a3 a4 a5 w0.2) (ws' := pv_wP E q0 q1 w.1 ++ pv_wT E a0 a1 a2 a3 a4 a5 w.2) rfl hD0
  have hP : va_P E.1 vwCl (pv_wP E q0 q1 w0.1 ++ pv_wT E a0 a1 a2 a3 a4 a5 w0.2) s.heap := hP
  have fl_32 : (Cond.fieldLink RX5 32 "ProvinceCards$Tape" "token" "I").before args s = true := hts _ (by decide +kernel)
  have fl_67 : (Cond.fieldLink RX5 67 "ProvinceCards$Tape" "value" "I").before args s = true := hts _ (by decide +kernel)
  have fl_80 : (Cond.fieldLink RX5 80 "ProvinceCards$Table" "mixing" "I").before args s = true := hts _ (by decide +kernel)
  have i_RX5 : ∀ w ∈ wsX50, w ∈ wsX5_takesMix := by decide +kernel
  have ni_X6_isMix : (Cond.initialized RX6).before args s = true := hts _ (by decide +kernel)
  have ns_X6_isMix : (Cond.static yX6_isMix).before args s = true := hts _ (by decide +kernel)
  have i_RX4 : ∀ w ∈ wsX40, w ∈ wsX5_takesMix := by decide +kernel
  have hl : lv_has ls 2 [(0, .ref q0), (1, .ref a0)] := hl
  suffices M0 : ∀ (H : Heap) (locs : List Loc), va_P E.1 vwCl (pv_wP E q0 q1 w0.1 ++ pv_wT E a0 a1 a2 a3 a4 a5 w0.2) H → va_S A s.heap H locs → W p l e r_X5_takesMix s m args below meth c H locs 0 0 (MQ below (pv_Rw E (pv_wP E q0 q1 w0.1 ++ pv_wT E a0 a1 a2 a3 a4 a5 w0.2) sz (some (.int F.1)) ((fun w : pv_PT × pv_TT => pv_wP E q0 q1 w.1 ++ pv_wT E a0 a1 a2 a3 a4 a5 w.2) F.2)) args s 0 0 A) (F0 m 0 ls []) from M0 s.heap [] hP hS
  intro H locs hP hS
  refine lv_aload_n (pc := 0) hx hb dX5_takesMix_0 rfl (lv_at hl 0 rfl) ?_
  obtain ⟨u_1, hu_1, hq⟩ := pv_bind hq
  refine pv_vRW (pc := 1) (rest := []) (st1 := []) (ws := pv_wP E q0 q1 w0.1 ++ pv_wT E a0 a1 a2 a3 a4 a5 w0.2) (ws' := pv_wP E q0 q1 ((u_1, w0.2).1) ++ pv_wT E a0 a1 a2 a3 a4 a5 ((u_1, w0.2).2)) [] ⟨hx, hb, hml, hown, hts⟩ hE hA hS hP (hD w0) (c_X5_step l E q0 q1 w0.1 u_1 hu_1) (cwV 0 hts gX5_takesMix_X5_step rfl rfl rfl (by decide +kernel) ⟨(Nat.le_of_ble_eq_true rfl), (Nat.le_of_ble_eq_true rfl)⟩) (va_recv hK hP (ci := 3) (q0 := 0) rfl rfl) [0, 1] rfl rfl rfl rfl rfl hl.1 rfl rfl (Nat.le_of_ble_eq_true rfl) dX5_takesMix_1 ⟨Nat.zero_le _, Nat.zero_le _⟩ (fun H locs hP hS => ?_)
  refine lv_aload_n (pc := 4) hx hb dX5_takesMix_4 rfl (lv_at hl 0 rfl) ?_
  refine va_get (pc := 5) (D := E.1) (ci := 3) (v := .int u_1.2.2.1) (C := RX5) (T := TX5) (N := 6) hx hb hts i_RX5 hown hK hP 0 rfl rfl 2 (Nat.le_of_ble_eq_true rfl) fl_32 (fun _ h9 => h9) rfl dX5_takesMix_5 ?_
  refine lv_iconst (pc := 8) (v := 2) hx hb dX5_takesMix_8 (by decide) ?_
  refine lv_icmp_ne (pc := 9) (tgt := 22) hx hb dX5_takesMix_9 (by decide) (fun c_2 => ?_) (fun c_2 => ?_)
  · have hq := pv_neg c_2 hq
    refine lv_iconst (pc := 22) (v := 0) hx hb dX5_takesMix_22 (by decide) ?_
    exact pv_rzRW (w := fun w : pv_PT × pv_TT => pv_wP E q0 q1 w.1 ++ pv_wT E a0 a1 a2 a3 a4 a5 w.2) hx hb hr hlk hAe hS hP (Option.some.inj hq) rfl dX5_takesMix_23
  · have hq := pv_pos c_2 hq
    refine lv_aload_n (pc := 12) hx hb dX5_takesMix_12 rfl (lv_at hl 0 rfl) ?_
    refine va_get (pc := 13) (D := E.1) (ci := 3) (v := .int u_1.2.2.2.2.2) (C := RX5) (T := TX5) (N := 6) hx hb hts i_RX5 hown hK hP 0 rfl rfl 5 (Nat.le_of_ble_eq_true rfl) fl_67 (fun _ h9 => h9) rfl dX5_takesMix_13 ?_
    refine pv_sROn (pc := 16) (rest := []) (st1 := [.int (m_X6_isMix u_1.2.2.2.2.2)]) (ws := pv_wP E q0 q1 ((u_1, w0.2).1) ++ pv_wT E a0 a1 a2 a3 a4 a5 ((u_1, w0.2).2)) [.int u_1.2.2.2.2.2] ⟨hx, hb, hml, hown, hts⟩ hE hA hS hP (hD (u_1, w0.2)) (c_X6_isMix l E u_1.2.2.2.2.2) ⟨va_cnB 1 hts gX5_takesMix_X6_isMix_n77 rfl rfl rfl (pv_nst2 hE) ni_X6_isMix (by decide +kernel) ⟨(Nat.le_of_ble_eq_true rfl), (Nat.le_of_ble_eq_true rfl)⟩, ns_X6_isMix⟩ [] rfl rfl rfl hl.1 rfl rfl (Nat.le_of_ble_eq_true rfl) dX5_takesMix_16 ⟨Nat.zero_le _, Nat.zero_le _⟩ (fun locs hS => ?_)
    refine lv_if_ne (pc := 19) (tgt := 24) hx hb dX5_takesMix_19 (by decide) (fun c_3 => ?_) (fun c_3 => ?_)
    · have hq := pv_neg c_3 hq
      refine lv_aload_n (pc := 24) hx hb dX5_takesMix_24 rfl (lv_at hl 1 rfl) ?_
      refine lv_aload_n (pc := 25) hx hb dX5_takesMix_25 rfl (lv_at hl 0 rfl) ?_
      refine va_get (pc := 26) (D := E.1) (ci := 3) (v := .int u_1.2.2.2.2.2) (C := RX5) (T := TX5) (N := 6) hx hb hts i_RX5 hown hK hP 0 rfl rfl 5 (Nat.le_of_ble_eq_true rfl) fl_67 (fun _ h9 => h9) rfl dX5_takesMix_26 ?_
      refine va_put (pc := 29) (D := E.1) (ci := 2) (v := .int u_1.2.2.2.2.2) (ty := .int) (C := RX4) (T := TX4) (N := 8) hx hb hts i_RX4 tyX4 tyX4_ok nmX4 hown hK hP (hD (u_1, w0.2)) hS 2 rfl rfl 1 (Nat.le_of_ble_eq_true rfl) fl_80 (fun _ h9 => h9) rfl (tyX4_ok 1 (Nat.le_of_ble_eq_true rfl)) rfl rfl (Nat.le_of_ble_eq_true rfl) dX5_takesMix_29 (fun H locs hP _ hS => ?_)
      have hP : va_P E.1 vwCl (pv_wP E q0 q1 ((u_1, (w0.2.1, u_1.2.2.2.2.2, w0.2.2.2.1, w0.2.2.2.2.1, w0.2.2.2.2.2.1, w0.2.2.2.2.2.2.1, w0.2.2.2.2.2.2.2.1, w0.2.2.2.2.2.2.2.2)).1) ++ pv_wT E a0 a1 a2 a3 a4 a5 ((u_1, (w0.2.1, u_1.2.2.2.2.2, w0.2.2.2.1, w0.2.2.2.2.1, w0.2.2.2.2.2.1, w0.2.2.2.2.2.2.1, w0.2.2.2.2.2.2.2.1, w0.2.2.2.2.2.2.2.2)).2)) H := hP
      refine lv_aload_n (pc := 32) hx hb dX5_takesMix_32 rfl (lv_at hl 0 rfl) ?_
      obtain ⟨u_4, hu_4, hq⟩ := pv_bind hq
      refine pv_vRW (pc := 33) (rest := []) (st1 := []) (ws := pv_wP E q0 q1 ((u_1, (w0.2.1, u_1.2.2.2.2.2, w0.2.2.2.1, w0.2.2.2.2.1, w0.2.2.2.2.2.1, w0.2.2.2.2.2.2.1, w0.2.2.2.2.2.2.2.1, w0.2.2.2.2.2.2.2.2)).1) ++ pv_wT E a0 a1 a2 a3 a4 a5 ((u_1, (w0.2.1, u_1.2.2.2.2.2, w0.2.2.2.1, w0.2.2.2.2.1, w0.2.2.2.2.2.1, w0.2.2.2.2.2.2.1, w0.2.2.2.2.2.2.2.1, w0.2.2.2.2.2.2.2.2)).2)) (ws' := pv_wP E q0 q1 ((u_4, (w0.2.1, u_1.2.2.2.2.2, w0.2.2.2.1, w0.2.2.2.2.1, w0.2.2.2.2.2.1, w0.2.2.2.2.2.2.1, w0.2.2.2.2.2.2.2.1, w0.2.2.2.2.2.2.2.2)).1) ++ pv_wT E a0 a1 a2 a3 a4 a5 ((u_4, (w0.2.1, u_1.2.2.2.2.2, w0.2.2.2.1, w0.2.2.2.2.1, w0.2.2.2.2.2.1, w0.2.2.2.2.2.2.1, w0.2.2.2.2.2.2.2.1, w0.2.2.2.2.2.2.2.2)).2)) [] ⟨hx, hb, hml, hown, hts⟩ hE hA hS hP (hD (u_1, (w0.2.1, u_1.2.2.2.2.2, w0.2.2.2.1, w0.2.2.2.2.1, w0.2.2.2.2.2.1, w0.2.2.2.2.2.2.1, w0.2.2.2.2.2.2.2.1, w0.2.2.2.2.2.2.2.2))) (c_X5_step l E q0 q1 u_1 u_4 hu_4) (cwV 0 hts gX5_takesMix_X5_step rfl rfl rfl (by decide +kernel) ⟨(Nat.le_of_ble_eq_true rfl), (Nat.le_of_ble_eq_true rfl)⟩) (va_recv hK hP (ci := 3) (q0 := 0) rfl rfl) [0, 1] rfl rfl rfl rfl rfl hl.1 rfl rfl (Nat.le_of_ble_eq_true rfl) dX5_takesMix_33 ⟨Nat.zero_le _, Nat.zero_le _⟩ (fun H locs hP hS => ?_)
      refine lv_iconst (pc := 36) (v := 1) hx hb dX5_takesMix_36 (by decide) ?_
      exact pv_rzRW (w := fun w : pv_PT × pv_TT => pv_wP E q0 q1 w.1 ++ pv_wT E a0 a1 a2 a3 a4 a5 w.2) hx hb hr hlk hAe hS hP (Option.some.inj hq) rfl dX5_takesMix_37
    · have hq := pv_pos c_3 hq
      refine lv_iconst (pc := 22) (v := 0) hx hb dX5_takesMix_22 (by decide) ?_
      exact pv_rzRW (w := fun w : pv_PT × pv_TT => pv_wP E q0 q1 w.1 ++ pv_wT E a0 a1 a2 a3 a4 a5 w.2) hx hb hr hlk hAe hS hP (Option.some.inj hq) rfl dX5_takesMix_23
def m_X5_takesProvince_81 (y1 : Int32) (y2 : Int32) (w : pv_PT × pv_TT) : Option (Int32 × pv_PT × pv_TT) :=
  pv_gd y1 8 (Option.bind (m_X5_step w.1) fun u_9 => (some (1, (u_9, (w.2.1, w.2.2.1, w.2.2.2.1, (upd w.2.2.2.2.1 y1.toNatClampNeg y2), w.2.2.2.2.2.1, w.2.2.2.2.2.2.1, w.2.2.2.2.2.2.2.1, w.2.2.2.2.2.2.2.2)))))
def m_X5_takesProvince_64 (x2 : Int32) (x3 : Int32) (w : pv_PT × pv_TT) : Option (Int32 × pv_PT × pv_TT) :=
  if x3 = 0 then (m_X5_takesProvince_81 x2 w.1.2.2.2.2.2 w) else (m_X5_takesProvince_81 x2 (-1) w)
def m_X5_takesProvince  (w : pv_PT × pv_TT) : Option (Int32 × pv_PT × pv_TT) :=
  Option.bind (m_X5_step w.1) fun u_1 => (if u_1.2.2.1 = 2 then (if (m_X6_isProvince u_1.2.2.2.2.2) = 0 then (some (0, (u_1, w.2))) else (Option.bind (m_X5_step u_1) fun u_4 => (Option.bind (m_X5_isWord 9 u_4) fun u_5 => (if u_5 = 0 then (if u_4.2.2.1 = 2 then (if (m_X6_isState u_4.2.2.2.2.2) = 0 then (some (0, (u_4, w.2))) else (m_X5_takesProvince_64 u_1.2.2.2.2.2 u_5 (u_4, w.2))) else (some (0, (u_4, w.2)))) else (m_X5_takesProvince_64 u_1.2.2.2.2.2 u_5 (u_4, w.2)))))) else (some (0, (u_1, w.2))))
abbrev r_X5_takesProvince : Room := { frames := 5, cells := 0, slots := 0, locals := 107 }
set_option maxHeartbeats 4000000 in
set_option maxRecDepth 100000 in
theorem c_X5_takesProvince (l : Launch) (E : pv_E) (q0 q1 a0 a1 a2 a3 a4 a5 : Nat)  (w0 : pv_PT × pv_TT) (F : Int32 × pv_PT × pv_TT) (hq : m_X5_takesProvince w0 = some F) : pv_RW l E yX5_takesProvince wsX5_takesProvince r_X5_takesProvince (pv_wP E q0 q1 w0.1 ++ pv_wT E a0 a1 a2 a3 a4 a5 w0.2) [.ref q0, .ref a0] (some (.int F.1)) (pv_wP E q0 q1 F.2.1 ++ pv_wT E a0 a1 a2 a3 a4 a5 F.2.2) := by
  intro sz
  refine pv_mk (by decide) rfl (Nat.le_of_ble_eq_true rfl) ?_
  intro p e s m args below meth c A hx hb hr hml hown hts hlk hAe hP hD0 hA hE hS ls hl
  have hown : s.vm.findClass RX5 = some m.cls := hown
  have hK := hE.1
  have hD : ∀ w : pv_PT × pv_TT, va_D A (pv_wP E q0 q1 w.1 ++ pv_wT E a0 a1 a2 a3 a4 a5 w.2) := fun w => pv_Dm (ws := pv_wP E q0 q1 w0.1 ++ pv_wT E a0 a1 a2 a3 a4 a5 w0.2) (ws' := pv_wP E q0 q1 w.1 ++ pv_wT E a0 a1 a2 a3 a4 a5 w.2) rfl hD0
  have hP : va_P E.1 vwCl (pv_wP E q0 q1 w0.1 ++ pv_wT E a0 a1 a2 a3 a4 a5 w0.2) s.heap := hP
  have fl_32 : (Cond.fieldLink RX5 32 "ProvinceCards$Tape" "token" "I").before args s = true := hts _ (by decide +kernel)
  have fl_67 : (Cond.fieldLink RX5 67 "ProvinceCards$Tape" "value" "I").before args s = true := hts _ (by decide +kernel)
  have fl_88 : (Cond.fieldLink RX5 88 "ProvinceCards$Table" "owner" "[I").before args s = true := hts _ (by decide +kernel)
  have i_RX5 : ∀ w ∈ wsX50, w ∈ wsX5_takesProvince := by decide +kernel
  have ni_X6_isProvince : (Cond.initialized RX6).before args s = true := hts _ (by decide +kernel)
  have ns_X6_isProvince : (Cond.static yX6_isProvince).before args s = true := hts _ (by decide +kernel)
  have i_RX4 : ∀ w ∈ wsX40, w ∈ wsX5_takesProvince := by decide +kernel
  have ni_X6_isState : (Cond.initialized RX6).before args s = true := hts _ (by decide +kernel)
  have ns_X6_isState : (Cond.static yX6_isState).before args s = true := hts _ (by decide +kernel)
  have hl : lv_has ls 4 [(0, .ref q0), (1, .ref a0)] := hl
  have B_81 : ∀ (y1 : Int32) (y2 : Int32) (w : pv_PT × pv_TT) (H : Heap) (locs : List Loc) (ls : Array Slot), va_P E.1 vwCl (pv_wP E q0 q1 w.1 ++ pv_wT E a0 a1 a2 a3 a4 a5 w.2) H → va_S A s.heap H locs → lv_has ls 4 [(0, .ref q0)] → m_X5_takesProvince_81 y1 y2 w = some F → W p l e r_X5_takesProvince s m args below meth c H locs 0 0 (MQ below (pv_Rw E (pv_wP E q0 q1 w0.1 ++ pv_wT E a0 a1 a2 a3 a4 a5 w0.2) sz (some (.int F.1)) ((fun w : pv_PT × pv_TT => pv_wP E q0 q1 w.1 ++ pv_wT E a0 a1 a2 a3 a4 a5 w.2) F.2)) args s 0 0 A) (F0 m 81 ls [.int y2, .int y1, .ref a1]) := by
    intro y1 y2 w H locs ls hP hS hl hq
    obtain ⟨h_8, hq⟩ := pv_gd_some hq
    refine va_iast (pc := 81) (D := E.1) hx hb hK hP (hD w) hS 3 0 rfl rfl h_8 dX5_takesProvince_81 (fun H locs hP _ hS => ?_)
    have hP : va_P E.1 vwCl (pv_wP E q0 q1 ((w.1, (w.2.1, w.2.2.1, w.2.2.2.1, (upd w.2.2.2.2.1 y1.toNatClampNeg y2), w.2.2.2.2.2.1, w.2.2.2.2.2.2.1, w.2.2.2.2.2.2.2.1, w.2.2.2.2.2.2.2.2)).1) ++ pv_wT E a0 a1 a2 a3 a4 a5 ((w.1, (w.2.1, w.2.2.1, w.2.2.2.1, (upd w.2.2.2.2.1 y1.toNatClampNeg y2), w.2.2.2.2.2.1, w.2.2.2.2.2.2.1, w.2.2.2.2.2.2.2.1, w.2.2.2.2.2.2.2.2)).2)) H := hP
    refine lv_aload_n (pc := 82) hx hb dX5_takesProvince_82 rfl (lv_at hl 0 rfl) ?_
    obtain ⟨u_9, hu_9, hq⟩ := pv_bind hq
    refine pv_vRW (pc := 83) (rest := []) (st1 := []) (ws := pv_wP E q0 q1 ((w.1, (w.2.1, w.2.2.1, w.2.2.2.1, (upd w.2.2.2.2.1 y1.toNatClampNeg y2), w.2.2.2.2.2.1, w.2.2.2.2.2.2.1, w.2.2.2.2.2.2.2.1, w.2.2.2.2.2.2.2.2)).1) ++ pv_wT E a0 a1 a2 a3 a4 a5 ((w.1, (w.2.1, w.2.2.1, w.2.2.2.1, (upd w.2.2.2.2.1 y1.toNatClampNeg y2), w.2.2.2.2.2.1, w.2.2.2.2.2.2.1, w.2.2.2.2.2.2.2.1, w.2.2.2.2.2.2.2.2)).2)) (ws' := pv_wP E q0 q1 ((u_9, (w.2.1, w.2.2.1, w.2.2.2.1, (upd w.2.2.2.2.1 y1.toNatClampNeg y2), w.2.2.2.2.2.1, w.2.2.2.2.2.2.1, w.2.2.2.2.2.2.2.1, w.2.2.2.2.2.2.2.2)).1) ++ pv_wT E a0 a1 a2 a3 a4 a5 ((u_9, (w.2.1, w.2.2.1, w.2.2.2.1, (upd w.2.2.2.2.1 y1.toNatClampNeg y2), w.2.2.2.2.2.1, w.2.2.2.2.2.2.1, w.2.2.2.2.2.2.2.1, w.2.2.2.2.2.2.2.2)).2)) [] ⟨hx, hb, hml, hown, hts⟩ hE hA hS hP (hD (w.1, (w.2.1, w.2.2.1, w.2.2.2.1, (upd w.2.2.2.2.1 y1.toNatClampNeg y2), w.2.2.2.2.2.1, w.2.2.2.2.2.2.1, w.2.2.2.2.2.2.2.1, w.2.2.2.2.2.2.2.2))) (c_X5_step l E q0 q1 w.1 u_9 hu_9) (cwV 0 hts gX5_takesProvince_X5_step rfl rfl rfl (by decide +kernel) ⟨(Nat.le_of_ble_eq_true rfl), (Nat.le_of_ble_eq_true rfl)⟩) (va_recv hK hP (ci := 3) (q0 := 0) rfl rfl) [0, 1] rfl rfl rfl rfl rfl hl.1 rfl rfl (Nat.le_of_ble_eq_true rfl) dX5_takesProvince_83 ⟨Nat.zero_le _, Nat.zero_le _⟩ (fun H locs hP hS => ?_)
    refine lv_iconst (pc := 86) (v := 1) hx hb dX5_takesProvince_86 (by decide) ?_
    exact pv_rzRW (w := fun w : pv_PT × pv_TT => pv_wP E q0 q1 w.1 ++ pv_wT E a0 a1 a2 a3 a4 a5 w.2) hx hb hr hlk hAe hS hP (Option.some.inj hq) rfl dX5_takesProvince_87
  have B_64 : ∀ (x2 : Int32) (x3 : Int32) (w : pv_PT × pv_TT) (H : Heap) (locs : List Loc) (ls : Array Slot), va_P E.1 vwCl (pv_wP E q0 q1 w.1 ++ pv_wT E a0 a1 a2 a3 a4 a5 w.2) H → va_S A s.heap H locs → lv_has ls 4 [(0, .ref q0), (1, .ref a0), (2, .int x2), (3, .int x3)] → m_X5_takesProvince_64 x2 x3 w = some F → W p l e r_X5_takesProvince s m args below meth c H locs 0 0 (MQ below (pv_Rw E (pv_wP E q0 q1 w0.1 ++ pv_wT E a0 a1 a2 a3 a4 a5 w0.2) sz (some (.int F.1)) ((fun w : pv_PT × pv_TT => pv_wP E q0 q1 w.1 ++ pv_wT E a0 a1 a2 a3 a4 a5 w.2) F.2)) args s 0 0 A) (F0 m 64 ls []) := by
    intro x2 x3 w H locs ls hP hS hl hq
    refine lv_aload_n (pc := 64) hx hb dX5_takesProvince_64 rfl (lv_at hl 1 rfl) ?_
    refine va_get (pc := 65) (D := E.1) (ci := 2) (v := .ref a1) (C := RX4) (T := TX4) (N := 8) hx hb hts i_RX4 hown hK hP 2 rfl rfl 3 (Nat.le_of_ble_eq_true rfl) fl_88 (fun _ h9 => h9) rfl dX5_takesProvince_65 ?_
    refine lv_iload_n (pc := 68) hx hb dX5_takesProvince_68 rfl (lv_at hl 2 rfl) ?_
    refine lv_iload_n (pc := 69) hx hb dX5_takesProvince_69 rfl (lv_at hl 3 rfl) ?_
    refine lv_if_eq (pc := 70) (tgt := 77) hx hb dX5_takesProvince_70 (by decide) (fun c_7 => ?_) (fun c_7 => ?_)
    · have hq := pv_pos c_7 hq
      refine lv_aload_n (pc := 77) hx hb dX5_takesProvince_77 rfl (lv_at hl 0 rfl) ?_
      refine va_get (pc := 78) (D := E.1) (ci := 3) (v := .int w.1.2.2.2.2.2) (C := RX5) (T := TX5) (N := 6) hx hb hts i_RX5 hown hK hP 0 rfl rfl 5 (Nat.le_of_ble_eq_true rfl) fl_67 (fun _ h9 => h9) rfl dX5_takesProvince_78 ?_
      exact B_81 x2 w.1.2.2.2.2.2 w H locs ls hP hS (lv_sub hl [0] rfl) hq
    · have hq := pv_neg c_7 hq
      refine lv_iconst (pc := 73) (v := (-1)) hx hb dX5_takesProvince_73 (by decide) ?_
      refine lv_goto (pc := 74) (tgt := 81) hx hb dX5_takesProvince_74 (by decide) ?_
      exact B_81 x2 (-1) w H locs ls hP hS (lv_sub hl [0] rfl) hq
  suffices M0 : ∀ (H : Heap) (locs : List Loc), va_P E.1 vwCl (pv_wP E q0 q1 w0.1 ++ pv_wT E a0 a1 a2 a3 a4 a5 w0.2) H → va_S A s.heap H locs → W p l e r_X5_takesProvince s m args below meth c H locs 0 0 (MQ below (pv_Rw E (pv_wP E q0 q1 w0.1 ++ pv_wT E a0 a1 a2 a3 a4 a5 w0.2) sz (some (.int F.1)) ((fun w : pv_PT × pv_TT => pv_wP E q0 q1 w.1 ++ pv_wT E a0 a1 a2 a3 a4 a5 w.2) F.2)) args s 0 0 A) (F0 m 0 ls []) from M0 s.heap [] hP hS
  intro H locs hP hS
  refine lv_aload_n (pc := 0) hx hb dX5_takesProvince_0 rfl (lv_at hl 0 rfl) ?_
  obtain ⟨u_1, hu_1, hq⟩ := pv_bind hq
  refine pv_vRW (pc := 1) (rest := []) (st1 := []) (ws := pv_wP E q0 q1 w0.1 ++ pv_wT E a0 a1 a2 a3 a4 a5 w0.2) (ws' := pv_wP E q0 q1 ((u_1, w0.2).1) ++ pv_wT E a0 a1 a2 a3 a4 a5 ((u_1, w0.2).2)) [] ⟨hx, hb, hml, hown, hts⟩ hE hA hS hP (hD w0) (c_X5_step l E q0 q1 w0.1 u_1 hu_1) (cwV 0 hts gX5_takesProvince_X5_step rfl rfl rfl (by decide +kernel) ⟨(Nat.le_of_ble_eq_true rfl), (Nat.le_of_ble_eq_true rfl)⟩) (va_recv hK hP (ci := 3) (q0 := 0) rfl rfl) [0, 1] rfl rfl rfl rfl rfl hl.1 rfl rfl (Nat.le_of_ble_eq_true rfl) dX5_takesProvince_1 ⟨Nat.zero_le _, Nat.zero_le _⟩ (fun H locs hP hS => ?_)
  refine lv_aload_n (pc := 4) hx hb dX5_takesProvince_4 rfl (lv_at hl 0 rfl) ?_
  refine va_get (pc := 5) (D := E.1) (ci := 3) (v := .int u_1.2.2.1) (C := RX5) (T := TX5) (N := 6) hx hb hts i_RX5 hown hK hP 0 rfl rfl 2 (Nat.le_of_ble_eq_true rfl) fl_32 (fun _ h9 => h9) rfl dX5_takesProvince_5 ?_
  refine lv_iconst (pc := 8) (v := 2) hx hb dX5_takesProvince_8 (by decide) ?_
  refine lv_icmp_ne (pc := 9) (tgt := 22) hx hb dX5_takesProvince_9 (by decide) (fun c_2 => ?_) (fun c_2 => ?_)
  · have hq := pv_neg c_2 hq
    refine lv_iconst (pc := 22) (v := 0) hx hb dX5_takesProvince_22 (by decide) ?_
    exact pv_rzRW (w := fun w : pv_PT × pv_TT => pv_wP E q0 q1 w.1 ++ pv_wT E a0 a1 a2 a3 a4 a5 w.2) hx hb hr hlk hAe hS hP (Option.some.inj hq) rfl dX5_takesProvince_23
  · have hq := pv_pos c_2 hq
    refine lv_aload_n (pc := 12) hx hb dX5_takesProvince_12 rfl (lv_at hl 0 rfl) ?_
    refine va_get (pc := 13) (D := E.1) (ci := 3) (v := .int u_1.2.2.2.2.2) (C := RX5) (T := TX5) (N := 6) hx hb hts i_RX5 hown hK hP 0 rfl rfl 5 (Nat.le_of_ble_eq_true rfl) fl_67 (fun _ h9 => h9) rfl dX5_takesProvince_13 ?_
    refine pv_sROn (pc := 16) (rest := []) (st1 := [.int (m_X6_isProvince u_1.2.2.2.2.2)]) (ws := pv_wP E q0 q1 ((u_1, w0.2).1) ++ pv_wT E a0 a1 a2 a3 a4 a5 ((u_1, w0.2).2)) [.int u_1.2.2.2.2.2] ⟨hx, hb, hml, hown, hts⟩ hE hA hS hP (hD (u_1, w0.2)) (c_X6_isProvince l E u_1.2.2.2.2.2) ⟨va_cnB 1 hts gX5_takesProvince_X6_isProvince_n83 rfl rfl rfl (pv_nst3 hE) ni_X6_isProvince (by decide +kernel) ⟨(Nat.le_of_ble_eq_true rfl), (Nat.le_of_ble_eq_true rfl)⟩, ns_X6_isProvince⟩ [] rfl rfl rfl hl.1 rfl rfl (Nat.le_of_ble_eq_true rfl) dX5_takesProvince_16 ⟨Nat.zero_le _, Nat.zero_le _⟩ (fun locs hS => ?_)
    refine lv_if_ne (pc := 19) (tgt := 24) hx hb dX5_takesProvince_19 (by decide) (fun c_3 => ?_) (fun c_3 => ?_)
    · have hq := pv_neg c_3 hq
      refine lv_aload_n (pc := 24) hx hb dX5_takesProvince_24 rfl (lv_at hl 0 rfl) ?_
      refine va_get (pc := 25) (D := E.1) (ci := 3) (v := .int u_1.2.2.2.2.2) (C := RX5) (T := TX5) (N := 6) hx hb hts i_RX5 hown hK hP 0 rfl rfl 5 (Nat.le_of_ble_eq_true rfl) fl_67 (fun _ h9 => h9) rfl dX5_takesProvince_25 ?_
      refine lv_istore_n (pc := 28) (lv' := [(2, .int u_1.2.2.2.2.2), (0, .ref q0), (1, .ref a0)]) hx hb dX5_takesProvince_28 rfl hl (Nat.le_of_ble_eq_true rfl) rfl (fun ls hl => ?_)
      refine lv_aload_n (pc := 29) hx hb dX5_takesProvince_29 rfl (lv_at hl 1 rfl) ?_
      obtain ⟨u_4, hu_4, hq⟩ := pv_bind hq
      refine pv_vRW (pc := 30) (rest := []) (st1 := []) (ws := pv_wP E q0 q1 ((u_1, w0.2).1) ++ pv_wT E a0 a1 a2 a3 a4 a5 ((u_1, w0.2).2)) (ws' := pv_wP E q0 q1 ((u_4, w0.2).1) ++ pv_wT E a0 a1 a2 a3 a4 a5 ((u_4, w0.2).2)) [] ⟨hx, hb, hml, hown, hts⟩ hE hA hS hP (hD (u_1, w0.2)) (c_X5_step l E q0 q1 u_1 u_4 hu_4) (cwV 0 hts gX5_takesProvince_X5_step rfl rfl rfl (by decide +kernel) ⟨(Nat.le_of_ble_eq_true rfl), (Nat.le_of_ble_eq_true rfl)⟩) (va_recv hK hP (ci := 3) (q0 := 0) rfl rfl) [0, 1] rfl rfl rfl rfl rfl hl.1 rfl rfl (Nat.le_of_ble_eq_true rfl) dX5_takesProvince_30 ⟨Nat.zero_le _, Nat.zero_le _⟩ (fun H locs hP hS => ?_)
      refine lv_aload_n (pc := 33) hx hb dX5_takesProvince_33 rfl (lv_at hl 1 rfl) ?_
      refine va_ldcS (pc := 34) (own := RX5) (index := 86) hx hb hown (pv_str9 hE) dX5_takesProvince_34 ?_
      obtain ⟨u_5, hu_5, hq⟩ := pv_bind hq
      refine pv_vRO (pc := 36) (rest := []) (st1 := [.int u_5]) (ws := pv_wP E q0 q1 ((u_4, w0.2).1) ++ pv_wT E a0 a1 a2 a3 a4 a5 ((u_4, w0.2).2)) [.ref (pv_k E 9)] ⟨hx, hb, hml, hown, hts⟩ hE hA hS hP (hD (u_4, w0.2)) (c_X5_isWord l E q0 q1 9 u_4 u_5 hu_5) (cwV 1 hts gX5_takesProvince_X5_isWord rfl rfl rfl (by decide +kernel) ⟨(Nat.le_of_ble_eq_true rfl), (Nat.le_of_ble_eq_true rfl)⟩) (va_recv hK hP (ci := 3) (q0 := 0) rfl rfl) [0, 1] rfl rfl rfl hl.1 rfl rfl (Nat.le_of_ble_eq_true rfl) dX5_takesProvince_36 ⟨Nat.zero_le _, Nat.zero_le _⟩ (fun locs hS => ?_)
      refine lv_istore_n (pc := 39) (lv' := [(3, .int u_5), (2, .int u_1.2.2.2.2.2), (0, .ref q0), (1, .ref a0)]) hx hb dX5_takesProvince_39 rfl hl (Nat.le_of_ble_eq_true rfl) rfl (fun ls hl => ?_)
      refine lv_iload_n (pc := 40) hx hb dX5_takesProvince_40 rfl (lv_at hl 0 rfl) ?_
      refine lv_if_ne (pc := 41) (tgt := 64) hx hb dX5_takesProvince_41 (by decide) (fun c_6 => ?_) (fun c_6 => ?_)
      · have hq := pv_neg c_6 hq
        exact B_64 u_1.2.2.2.2.2 u_5 (u_4, w0.2) H locs ls hP hS (lv_sub hl [2, 3, 1, 0] rfl) hq
      · have hq := pv_pos c_6 hq
        refine lv_aload_n (pc := 44) hx hb dX5_takesProvince_44 rfl (lv_at hl 2 rfl) ?_
        refine va_get (pc := 45) (D := E.1) (ci := 3) (v := .int u_4.2.2.1) (C := RX5) (T := TX5) (N := 6) hx hb hts i_RX5 hown hK hP 0 rfl rfl 2 (Nat.le_of_ble_eq_true rfl) fl_32 (fun _ h9 => h9) rfl dX5_takesProvince_45 ?_
        refine lv_iconst (pc := 48) (v := 2) hx hb dX5_takesProvince_48 (by decide) ?_
        refine lv_icmp_ne (pc := 49) (tgt := 62) hx hb dX5_takesProvince_49 (by decide) (fun c_10 => ?_) (fun c_10 => ?_)
        · have hq := pv_neg c_10 hq
          refine lv_iconst (pc := 62) (v := 0) hx hb dX5_takesProvince_62 (by decide) ?_
          exact pv_rzRW (w := fun w : pv_PT × pv_TT => pv_wP E q0 q1 w.1 ++ pv_wT E a0 a1 a2 a3 a4 a5 w.2) hx hb hr hlk hAe hS hP (Option.some.inj hq) rfl dX5_takesProvince_63
        · have hq := pv_pos c_10 hq
          refine lv_aload_n (pc := 52) hx hb dX5_takesProvince_52 rfl (lv_at hl 2 rfl) ?_
          refine va_get (pc := 53) (D := E.1) (ci := 3) (v := .int u_4.2.2.2.2.2) (C := RX5) (T := TX5) (N := 6) hx hb hts i_RX5 hown hK hP 0 rfl rfl 5 (Nat.le_of_ble_eq_true rfl) fl_67 (fun _ h9 => h9) rfl dX5_takesProvince_53 ?_
          refine pv_sROn (pc := 56) (rest := []) (st1 := [.int (m_X6_isState u_4.2.2.2.2.2)]) (ws := pv_wP E q0 q1 ((u_4, w0.2).1) ++ pv_wT E a0 a1 a2 a3 a4 a5 ((u_4, w0.2).2)) [.int u_4.2.2.2.2.2] ⟨hx, hb, hml, hown, hts⟩ hE hA hS hP (hD (u_4, w0.2)) (c_X6_isState l E u_4.2.2.2.2.2) ⟨va_cnB 1 hts gX5_takesProvince_X6_isState_n70 rfl rfl rfl (pv_nst1 hE) ni_X6_isState (by decide +kernel) ⟨(Nat.le_of_ble_eq_true rfl), (Nat.le_of_ble_eq_true rfl)⟩, ns_X6_isState⟩ [] rfl rfl rfl hl.1 rfl rfl (Nat.le_of_ble_eq_true rfl) dX5_takesProvince_56 ⟨Nat.zero_le _, Nat.zero_le _⟩ (fun locs hS => ?_)
          refine lv_if_ne (pc := 59) (tgt := 64) hx hb dX5_takesProvince_59 (by decide) (fun c_11 => ?_) (fun c_11 => ?_)
          · have hq := pv_neg c_11 hq
            exact B_64 u_1.2.2.2.2.2 u_5 (u_4, w0.2) H locs ls hP hS (lv_sub hl [2, 3, 1, 0] rfl) hq
          · have hq := pv_pos c_11 hq
            refine lv_iconst (pc := 62) (v := 0) hx hb dX5_takesProvince_62 (by decide) ?_
            exact pv_rzRW (w := fun w : pv_PT × pv_TT => pv_wP E q0 q1 w.1 ++ pv_wT E a0 a1 a2 a3 a4 a5 w.2) hx hb hr hlk hAe hS hP (Option.some.inj hq) rfl dX5_takesProvince_63
    · have hq := pv_pos c_3 hq
      refine lv_iconst (pc := 22) (v := 0) hx hb dX5_takesProvince_22 (by decide) ?_
      exact pv_rzRW (w := fun w : pv_PT × pv_TT => pv_wP E q0 q1 w.1 ++ pv_wT E a0 a1 a2 a3 a4 a5 w.2) hx hb hr hlk hAe hS hP (Option.some.inj hq) rfl dX5_takesProvince_23
def m_X5_takesItem_2 : Nat → Int32 → (pv_PT × pv_TT) → Option (Int32 × pv_PT × pv_TT)
  | 0 => fun _ _ => none
  | n + 1 => fun x2 w =>
    if 6 ≤ x2 then (Option.bind (m_X5_isWord 7 w.1) fun u_2 => (if u_2 = 0 then (Option.bind (m_X5_isWord 8 w.1) fun u_4 => (if u_4 = 0 then (some (0, w)) else (Option.bind (m_X5_takesProvince w) fun u_6 => (if u_6.1 = 0 then (some (0, u_6.2)) else (some (1, u_6.2)))))) else (Option.bind (m_X5_takesMix w) fun u_8 => (pv_gz u_8.1 (some (u_8.1, u_8.2)))))) else (Option.bind (m_X5_isWord (m_X2_name x2) w.1) fun u_10 => (if u_10 = 0 then ((m_X5_takesItem_2 n) (x2 + 1) w) else (Option.bind (m_X5_takesEnvoy x2 w) fun u_12 => (pv_gz u_12.1 (some (u_12.1, u_12.2))))))
def m_X5_takesItem  (w : pv_PT × pv_TT) : Option (Int32 × pv_PT × pv_TT) :=
  m_X5_takesItem_2 300 0 w
abbrev r_X5_takesItem : Room := { frames := 6, cells := 0, slots := 0, locals := 130 }
set_option maxHeartbeats 4000000 in
set_option maxRecDepth 100000 in
theorem c_X5_takesItem (l : Launch) (E : pv_E) (q0 q1 a0 a1 a2 a3 a4 a5 : Nat)  (w0 : pv_PT × pv_TT) (F : Int32 × pv_PT × pv_TT) (hq : m_X5_takesItem w0 = some F) : pv_RW l E yX5_takesItem wsX5_takesItem r_X5_takesItem (pv_wP E q0 q1 w0.1 ++ pv_wT E a0 a1 a2 a3 a4 a5 w0.2) [.ref q0, .ref a0] (some (.int F.1)) (pv_wP E q0 q1 F.2.1 ++ pv_wT E a0 a1 a2 a3 a4 a5 F.2.2) := by
  intro sz
  refine pv_mk (by decide) rfl (Nat.le_of_ble_eq_true rfl) ?_
  intro p e s m args below meth c A hx hb hr hml hown hts hlk hAe hP hD0 hA hE hS ls hl
  have hown : s.vm.findClass RX5 = some m.cls := hown
  have hK := hE.1
  have hD : ∀ w : pv_PT × pv_TT, va_D A (pv_wP E q0 q1 w.1 ++ pv_wT E a0 a1 a2 a3 a4 a5 w.2) := fun w => pv_Dm (ws := pv_wP E q0 q1 w0.1 ++ pv_wT E a0 a1 a2 a3 a4 a5 w0.2) (ws' := pv_wP E q0 q1 w.1 ++ pv_wT E a0 a1 a2 a3 a4 a5 w.2) rfl hD0
  have hP : va_P E.1 vwCl (pv_wP E q0 q1 w0.1 ++ pv_wT E a0 a1 a2 a3 a4 a5 w0.2) s.heap := hP
  have hl : lv_has ls 3 [(0, .ref q0), (1, .ref a0)] := hl
  have L_2 : ∀ n : Nat, ∀ (x2 : Int32) (w : pv_PT × pv_TT) (H : Heap) (locs : List Loc) (ls : Array Slot), va_P E.1 vwCl (pv_wP E q0 q1 w.1 ++ pv_wT E a0 a1 a2 a3 a4 a5 w.2) H → va_S A s.heap H locs → lv_has ls 3 [(0, .ref q0), (1, .ref a0), (2, .int x2)] → m_X5_takesItem_2 n x2 w = some F → W p l e r_X5_takesItem s m args below meth c H locs 0 0 (MQ below (pv_Rw E (pv_wP E q0 q1 w0.1 ++ pv_wT E a0 a1 a2 a3 a4 a5 w0.2) sz (some (.int F.1)) ((fun w : pv_PT × pv_TT => pv_wP E q0 q1 w.1 ++ pv_wT E a0 a1 a2 a3 a4 a5 w.2) F.2)) args s 0 0 A) (F0 m 2 ls []) := by
    intro n
    induction n with
    | zero =>
      intro x2 w H locs ls hP hS hl hq
      exact (pv_no hq).elim
    | succ n ih =>
      intro x2 w H locs ls hP hS hl hq
      refine lv_iload_n (pc := 2) hx hb dX5_takesItem_2 rfl (lv_at hl 2 rfl) ?_
      refine lv_bipush (pc := 3) (v := 6) hx hb dX5_takesItem_3 (by decide) ?_
      refine lv_icmp_ge (pc := 5) (tgt := 32) hx hb dX5_takesItem_5 (by decide) (fun c_1 => ?_) (fun c_1 => ?_)
      · have hq := pv_pos c_1 hq
        refine lv_aload_n (pc := 32) hx hb dX5_takesItem_32 rfl (lv_at hl 0 rfl) ?_
        refine va_ldcS (pc := 33) (own := RX5) (index := 49) hx hb hown (pv_str7 hE) dX5_takesItem_33 ?_
        obtain ⟨u_2, hu_2, hq⟩ := pv_bind hq
        refine pv_vRO (pc := 35) (rest := []) (st1 := [.int u_2]) (ws := pv_wP E q0 q1 w.1 ++ pv_wT E a0 a1 a2 a3 a4 a5 w.2) [.ref (pv_k E 7)] ⟨hx, hb, hml, hown, hts⟩ hE hA hS hP (hD w) (c_X5_isWord l E q0 q1 7 w.1 u_2 hu_2) (cwV 1 hts gX5_takesItem_X5_isWord rfl rfl rfl (by decide +kernel) ⟨(Nat.le_of_ble_eq_true rfl), (Nat.le_of_ble_eq_true rfl)⟩) (va_recv hK hP (ci := 3) (q0 := 0) rfl rfl) [0, 1] rfl rfl rfl hl.1 rfl rfl (Nat.le_of_ble_eq_true rfl) dX5_takesItem_35 ⟨Nat.zero_le _, Nat.zero_le _⟩ (fun locs hS => ?_)
        refine lv_if_eq (pc := 38) (tgt := 47) hx hb dX5_takesItem_38 (by decide) (fun c_3 => ?_) (fun c_3 => ?_)
        · have hq := pv_pos c_3 hq
          refine lv_aload_n (pc := 47) hx hb dX5_takesItem_47 rfl (lv_at hl 0 rfl) ?_
          refine va_ldcS (pc := 48) (own := RX5) (index := 54) hx hb hown (pv_str8 hE) dX5_takesItem_48 ?_
          obtain ⟨u_4, hu_4, hq⟩ := pv_bind hq
          refine pv_vRO (pc := 50) (rest := []) (st1 := [.int u_4]) (ws := pv_wP E q0 q1 w.1 ++ pv_wT E a0 a1 a2 a3 a4 a5 w.2) [.ref (pv_k E 8)] ⟨hx, hb, hml, hown, hts⟩ hE hA hS hP (hD w) (c_X5_isWord l E q0 q1 8 w.1 u_4 hu_4) (cwV 1 hts gX5_takesItem_X5_isWord rfl rfl rfl (by decide +kernel) ⟨(Nat.le_of_ble_eq_true rfl), (Nat.le_of_ble_eq_true rfl)⟩) (va_recv hK hP (ci := 3) (q0 := 0) rfl rfl) [0, 1] rfl rfl rfl hl.1 rfl rfl (Nat.le_of_ble_eq_true rfl) dX5_takesItem_50 ⟨Nat.zero_le _, Nat.zero_le _⟩ (fun locs hS => ?_)
          refine lv_if_eq (pc := 53) (tgt := 68) hx hb dX5_takesItem_53 (by decide) (fun c_5 => ?_) (fun c_5 => ?_)
          · have hq := pv_pos c_5 hq
            refine lv_iconst (pc := 68) (v := 0) hx hb dX5_takesItem_68 (by decide) ?_
            exact pv_rzRW (w := fun w : pv_PT × pv_TT => pv_wP E q0 q1 w.1 ++ pv_wT E a0 a1 a2 a3 a4 a5 w.2) hx hb hr hlk hAe hS hP (Option.some.inj hq) rfl dX5_takesItem_69
          · have hq := pv_neg c_5 hq
            refine lv_aload_n (pc := 56) hx hb dX5_takesItem_56 rfl (lv_at hl 0 rfl) ?_
            refine lv_aload_n (pc := 57) hx hb dX5_takesItem_57 rfl (lv_at hl 1 rfl) ?_
            obtain ⟨u_6, hu_6, hq⟩ := pv_bind hq
            refine pv_vRWf (pc := 58) (rest := []) (st1 := [.int u_6.1]) (ws := pv_wP E q0 q1 w.1 ++ pv_wT E a0 a1 a2 a3 a4 a5 w.2) [.ref a0] ⟨hx, hb, hml, hown, hts⟩ hE hA hS hP (hD w) (c_X5_takesProvince l E q0 q1 a0 a1 a2 a3 a4 a5 w u_6 hu_6) (cwV 1 hts gX5_takesItem_X5_takesProvince rfl rfl rfl (by decide +kernel) ⟨(Nat.le_of_ble_eq_true rfl), (Nat.le_of_ble_eq_true rfl)⟩) (va_recv hK hP (ci := 3) (q0 := 0) rfl rfl) rfl hl.1 rfl rfl (Nat.le_of_ble_eq_true rfl) dX5_takesItem_58 ⟨Nat.zero_le _, Nat.zero_le _⟩ (fun H locs hP hS => ?_)
            have hP : va_P E.1 vwCl (pv_wP E q0 q1 u_6.2.1 ++ pv_wT E a0 a1 a2 a3 a4 a5 u_6.2.2) H := hP
            refine lv_if_eq (pc := 61) (tgt := 68) hx hb dX5_takesItem_61 (by decide) (fun c_7 => ?_) (fun c_7 => ?_)
            · have hq := pv_pos c_7 hq
              refine lv_iconst (pc := 68) (v := 0) hx hb dX5_takesItem_68 (by decide) ?_
              exact pv_rzRW (w := fun w : pv_PT × pv_TT => pv_wP E q0 q1 w.1 ++ pv_wT E a0 a1 a2 a3 a4 a5 w.2) hx hb hr hlk hAe hS hP (Option.some.inj hq) rfl dX5_takesItem_69
            · have hq := pv_neg c_7 hq
              refine lv_iconst (pc := 64) (v := 1) hx hb dX5_takesItem_64 (by decide) ?_
              refine lv_goto (pc := 65) (tgt := 69) hx hb dX5_takesItem_65 (by decide) ?_
              exact pv_rzRW (w := fun w : pv_PT × pv_TT => pv_wP E q0 q1 w.1 ++ pv_wT E a0 a1 a2 a3 a4 a5 w.2) hx hb hr hlk hAe hS hP (Option.some.inj hq) rfl dX5_takesItem_69
        · have hq := pv_neg c_3 hq
          refine lv_aload_n (pc := 41) hx hb dX5_takesItem_41 rfl (lv_at hl 0 rfl) ?_
          refine lv_aload_n (pc := 42) hx hb dX5_takesItem_42 rfl (lv_at hl 1 rfl) ?_
          obtain ⟨u_8, hu_8, hq⟩ := pv_bind hq
          refine pv_vRWf (pc := 43) (rest := []) (st1 := [.int u_8.1]) (ws := pv_wP E q0 q1 w.1 ++ pv_wT E a0 a1 a2 a3 a4 a5 w.2) [.ref a0] ⟨hx, hb, hml, hown, hts⟩ hE hA hS hP (hD w) (c_X5_takesMix l E q0 q1 a0 a1 a2 a3 a4 a5 w u_8 hu_8) (cwV 1 hts gX5_takesItem_X5_takesMix rfl rfl rfl (by decide +kernel) ⟨(Nat.le_of_ble_eq_true rfl), (Nat.le_of_ble_eq_true rfl)⟩) (va_recv hK hP (ci := 3) (q0 := 0) rfl rfl) rfl hl.1 rfl rfl (Nat.le_of_ble_eq_true rfl) dX5_takesItem_43 ⟨Nat.zero_le _, Nat.zero_le _⟩ (fun H locs hP hS => ?_)
          have hP : va_P E.1 vwCl (pv_wP E q0 q1 u_8.2.1 ++ pv_wT E a0 a1 a2 a3 a4 a5 u_8.2.2) H := hP
          obtain ⟨h_9, hq⟩ := pv_gz_some hq
          exact pv_rzRW (w := fun w : pv_PT × pv_TT => pv_wP E q0 q1 w.1 ++ pv_wT E a0 a1 a2 a3 a4 a5 w.2) hx hb hr hlk hAe hS hP (Option.some.inj hq) h_9.1 dX5_takesItem_46
      · have hq := pv_neg c_1 hq
        refine lv_aload_n (pc := 8) hx hb dX5_takesItem_8 rfl (lv_at hl 0 rfl) ?_
        refine lv_iload_n (pc := 9) hx hb dX5_takesItem_9 rfl (lv_at hl 2 rfl) ?_
        refine pv_sRO (pc := 10) (rest := [.ref q0]) (st1 := [.ref (pv_k E (m_X2_name x2)), .ref q0]) (ws := pv_wP E q0 q1 w.1 ++ pv_wT E a0 a1 a2 a3 a4 a5 w.2) [.int x2] ⟨hx, hb, hml, hown, hts⟩ hE hA hS hP (hD w) (c_X2_name l E x2) (va_cwS 1 hts gX5_takesItem_X2_name rfl rfl rfl (by decide +kernel) ⟨(Nat.le_of_ble_eq_true rfl), (Nat.le_of_ble_eq_true rfl)⟩) [] rfl rfl rfl hl.1 rfl rfl (Nat.le_of_ble_eq_true rfl) dX5_takesItem_10 ⟨Nat.zero_le _, Nat.zero_le _⟩ (fun locs hS => ?_)
        obtain ⟨u_10, hu_10, hq⟩ := pv_bind hq
        refine pv_vRO (pc := 13) (rest := []) (st1 := [.int u_10]) (ws := pv_wP E q0 q1 w.1 ++ pv_wT E a0 a1 a2 a3 a4 a5 w.2) [.ref (pv_k E (m_X2_name x2))] ⟨hx, hb, hml, hown, hts⟩ hE hA hS hP (hD w) (c_X5_isWord l E q0 q1 (m_X2_name x2) w.1 u_10 hu_10) (cwV 1 hts gX5_takesItem_X5_isWord rfl rfl rfl (by decide +kernel) ⟨(Nat.le_of_ble_eq_true rfl), (Nat.le_of_ble_eq_true rfl)⟩) (va_recv hK hP (ci := 3) (q0 := 0) rfl rfl) [0, 1] rfl rfl rfl hl.1 rfl rfl (Nat.le_of_ble_eq_true rfl) dX5_takesItem_13 ⟨Nat.zero_le _, Nat.zero_le _⟩ (fun locs hS => ?_)
        refine lv_if_eq (pc := 16) (tgt := 26) hx hb dX5_takesItem_16 (by decide) (fun c_11 => ?_) (fun c_11 => ?_)
        · have hq := pv_pos c_11 hq
          refine lv_iinc (pc := 26) (v := (x2 + 1)) (lv' := [(2, .int (x2 + 1)), (0, .ref q0), (1, .ref a0)]) hx hb dX5_takesItem_26 hl (k := 2) rfl rfl (Nat.le_of_ble_eq_true rfl) rfl (fun ls hl => ?_)
          refine lv_goto (pc := 29) (tgt := 2) hx hb dX5_takesItem_29 (by decide) ?_
          exact ih (x2 + 1) w H locs ls hP hS (lv_sub hl [1, 2, 0] rfl) hq
        · have hq := pv_neg c_11 hq
          refine lv_aload_n (pc := 19) hx hb dX5_takesItem_19 rfl (lv_at hl 0 rfl) ?_
          refine lv_aload_n (pc := 20) hx hb dX5_takesItem_20 rfl (lv_at hl 1 rfl) ?_
          refine lv_iload_n (pc := 21) hx hb dX5_takesItem_21 rfl (lv_at hl 2 rfl) ?_
          obtain ⟨u_12, hu_12, hq⟩ := pv_bind hq
          refine pv_vRWf (pc := 22) (rest := []) (st1 := [.int u_12.1]) (ws := pv_wP E q0 q1 w.1 ++ pv_wT E a0 a1 a2 a3 a4 a5 w.2) [.ref a0, .int x2] ⟨hx, hb, hml, hown, hts⟩ hE hA hS hP (hD w) (c_X5_takesEnvoy l E q0 q1 a0 a1 a2 a3 a4 a5 x2 w u_12 hu_12) (cwV 2 hts gX5_takesItem_X5_takesEnvoy rfl rfl rfl (by decide +kernel) ⟨(Nat.le_of_ble_eq_true rfl), (Nat.le_of_ble_eq_true rfl)⟩) (va_recv hK hP (ci := 3) (q0 := 0) rfl rfl) rfl hl.1 rfl rfl (Nat.le_of_ble_eq_true rfl) dX5_takesItem_22 ⟨Nat.zero_le _, Nat.zero_le _⟩ (fun H locs hP hS => ?_)
          have hP : va_P E.1 vwCl (pv_wP E q0 q1 u_12.2.1 ++ pv_wT E a0 a1 a2 a3 a4 a5 u_12.2.2) H := hP
          obtain ⟨h_13, hq⟩ := pv_gz_some hq
          exact pv_rzRW (w := fun w : pv_PT × pv_TT => pv_wP E q0 q1 w.1 ++ pv_wT E a0 a1 a2 a3 a4 a5 w.2) hx hb hr hlk hAe hS hP (Option.some.inj hq) h_13.1 dX5_takesItem_25
  suffices M0 : ∀ (H : Heap) (locs : List Loc), va_P E.1 vwCl (pv_wP E q0 q1 w0.1 ++ pv_wT E a0 a1 a2 a3 a4 a5 w0.2) H → va_S A s.heap H locs → W p l e r_X5_takesItem s m args below meth c H locs 0 0 (MQ below (pv_Rw E (pv_wP E q0 q1 w0.1 ++ pv_wT E a0 a1 a2 a3 a4 a5 w0.2) sz (some (.int F.1)) ((fun w : pv_PT × pv_TT => pv_wP E q0 q1 w.1 ++ pv_wT E a0 a1 a2 a3 a4 a5 w.2) F.2)) args s 0 0 A) (F0 m 0 ls []) from M0 s.heap [] hP hS
  intro H locs hP hS
  refine lv_iconst (pc := 0) (v := 0) hx hb dX5_takesItem_0 (by decide) ?_
  refine lv_istore_n (pc := 1) (lv' := [(2, .int 0), (0, .ref q0), (1, .ref a0)]) hx hb dX5_takesItem_1 rfl hl (Nat.le_of_ble_eq_true rfl) rfl (fun ls hl => ?_)
  exact L_2 300 0 w0 H locs ls hP hS (lv_sub hl [1, 2, 0] rfl) hq
def m_X5_parse_11 : Nat → Int32 → (pv_PT × pv_TT) → Option (Int32 × pv_PT × pv_TT)
  | 0 => fun _ _ => none
  | n + 1 => fun x2 w =>
    if 120 < x2 then (some (((-1) - w.1.2.2.2.1), w)) else (Option.bind (m_X5_takesItem w) fun u_3 => (if u_3.1 = 0 then (some (((-1) - u_3.2.1.2.2.2.1), u_3.2)) else (if u_3.2.1.2.2.1 = 0 then (some (x2, u_3.2)) else (if u_3.2.1.2.2.1 = 3 then (Option.bind (m_X5_step u_3.2.1) fun u_7 => ((m_X5_parse_11 n) (x2 + 1) (u_7, u_3.2.2))) else (some (((-1) - u_3.2.1.2.2.2.1), u_3.2))))))
def m_X5_parse  (w : pv_PT × pv_TT) : Option (Int32 × pv_PT × pv_TT) :=
  Option.bind (m_X5_step (w.1.1, w.1.2.1, w.1.2.2.1, w.1.2.2.2.1, 0, w.1.2.2.2.2.2)) fun u_1 => (m_X5_parse_11 300 1 (u_1, w.2))
abbrev r_X5_parse : Room := { frames := 7, cells := 0, slots := 0, locals := 152 }
set_option maxHeartbeats 4000000 in
set_option maxRecDepth 100000 in
theorem c_X5_parse (l : Launch) (E : pv_E) (q0 q1 a0 a1 a2 a3 a4 a5 : Nat)  (w0 : pv_PT × pv_TT) (F : Int32 × pv_PT × pv_TT) (hq : m_X5_parse w0 = some F) : pv_RW l E yX5_parse wsX5_parse r_X5_parse (pv_wP E q0 q1 w0.1 ++ pv_wT E a0 a1 a2 a3 a4 a5 w0.2) [.ref q0, .ref a0] (some (.int F.1)) (pv_wP E q0 q1 F.2.1 ++ pv_wT E a0 a1 a2 a3 a4 a5 F.2.2) := by
  intro sz
  refine pv_mk (by decide) rfl (Nat.le_of_ble_eq_true rfl) ?_
  intro p e s m args below meth c A hx hb hr hml hown hts hlk hAe hP hD0 hA hE hS ls hl
  have hown : s.vm.findClass RX5 = some m.cls := hown
  have hK := hE.1
  have hD : ∀ w : pv_PT × pv_TT, va_D A (pv_wP E q0 q1 w.1 ++ pv_wT E a0 a1 a2 a3 a4 a5 w.2) := fun w => pv_Dm (ws := pv_wP E q0 q1 w0.1 ++ pv_wT E a0 a1 a2 a3 a4 a5 w0.2) (ws' := pv_wP E q0 q1 w.1 ++ pv_wT E a0 a1 a2 a3 a4 a5 w.2) rfl hD0
  have hP : va_P E.1 vwCl (pv_wP E q0 q1 w0.1 ++ pv_wT E a0 a1 a2 a3 a4 a5 w0.2) s.heap := hP
  have fl_19 : (Cond.fieldLink RX5 19 "ProvinceCards$Tape" "place" "I").before args s = true := hts _ (by decide +kernel)
  have fl_29 : (Cond.fieldLink RX5 29 "ProvinceCards$Tape" "start" "I").before args s = true := hts _ (by decide +kernel)
  have fl_32 : (Cond.fieldLink RX5 32 "ProvinceCards$Tape" "token" "I").before args s = true := hts _ (by decide +kernel)
  have i_RX5 : ∀ w ∈ wsX50, w ∈ wsX5_parse := by decide +kernel
  have hl : lv_has ls 3 [(0, .ref q0), (1, .ref a0)] := hl
  have L_11 : ∀ n : Nat, ∀ (x2 : Int32) (w : pv_PT × pv_TT) (H : Heap) (locs : List Loc) (ls : Array Slot), va_P E.1 vwCl (pv_wP E q0 q1 w.1 ++ pv_wT E a0 a1 a2 a3 a4 a5 w.2) H → va_S A s.heap H locs → lv_has ls 3 [(0, .ref q0), (1, .ref a0), (2, .int x2)] → m_X5_parse_11 n x2 w = some F → W p l e r_X5_parse s m args below meth c H locs 0 0 (MQ below (pv_Rw E (pv_wP E q0 q1 w0.1 ++ pv_wT E a0 a1 a2 a3 a4 a5 w0.2) sz (some (.int F.1)) ((fun w : pv_PT × pv_TT => pv_wP E q0 q1 w.1 ++ pv_wT E a0 a1 a2 a3 a4 a5 w.2) F.2)) args s 0 0 A) (F0 m 11 ls []) := by
    intro n
    induction n with
    | zero =>
      intro x2 w H locs ls hP hS hl hq
      exact (pv_no hq).elim
    | succ n ih =>
      intro x2 w H locs ls hP hS hl hq
      refine lv_iload_n (pc := 11) hx hb dX5_parse_11 rfl (lv_at hl 2 rfl) ?_
      refine lv_bipush (pc := 12) (v := 120) hx hb dX5_parse_12 (by decide) ?_
      refine lv_icmp_gt (pc := 14) (tgt := 66) hx hb dX5_parse_14 (by decide) (fun c_2 => ?_) (fun c_2 => ?_)
      · have hq := pv_pos c_2 hq
        refine lv_iconst (pc := 66) (v := (-1)) hx hb dX5_parse_66 (by decide) ?_
        refine lv_aload_n (pc := 67) hx hb dX5_parse_67 rfl (lv_at hl 0 rfl) ?_
        refine va_get (pc := 68) (D := E.1) (ci := 3) (v := .int w.1.2.2.2.1) (C := RX5) (T := TX5) (N := 6) hx hb hts i_RX5 hown hK hP 0 rfl rfl 3 (Nat.le_of_ble_eq_true rfl) fl_29 (fun _ h9 => h9) rfl dX5_parse_68 ?_
        refine lv_isub (pc := 71) hx hb dX5_parse_71 ?_
        exact pv_riRW (w := fun w : pv_PT × pv_TT => pv_wP E q0 q1 w.1 ++ pv_wT E a0 a1 a2 a3 a4 a5 w.2) hx hb hr hlk hAe hS hP (Option.some.inj hq) dX5_parse_72
      · have hq := pv_neg c_2 hq
        refine lv_aload_n (pc := 17) hx hb dX5_parse_17 rfl (lv_at hl 0 rfl) ?_
        refine lv_aload_n (pc := 18) hx hb dX5_parse_18 rfl (lv_at hl 1 rfl) ?_
        obtain ⟨u_3, hu_3, hq⟩ := pv_bind hq
        refine pv_vRWf (pc := 19) (rest := []) (st1 := [.int u_3.1]) (ws := pv_wP E q0 q1 w.1 ++ pv_wT E a0 a1 a2 a3 a4 a5 w.2) [.ref a0] ⟨hx, hb, hml, hown, hts⟩ hE hA hS hP (hD w) (c_X5_takesItem l E q0 q1 a0 a1 a2 a3 a4 a5 w u_3 hu_3) (cwV 1 hts gX5_parse_X5_takesItem rfl rfl rfl (by decide +kernel) ⟨(Nat.le_of_ble_eq_true rfl), (Nat.le_of_ble_eq_true rfl)⟩) (va_recv hK hP (ci := 3) (q0 := 0) rfl rfl) rfl hl.1 rfl rfl (Nat.le_of_ble_eq_true rfl) dX5_parse_19 ⟨Nat.zero_le _, Nat.zero_le _⟩ (fun H locs hP hS => ?_)
        have hP : va_P E.1 vwCl (pv_wP E q0 q1 u_3.2.1 ++ pv_wT E a0 a1 a2 a3 a4 a5 u_3.2.2) H := hP
        refine lv_if_ne (pc := 22) (tgt := 32) hx hb dX5_parse_22 (by decide) (fun c_4 => ?_) (fun c_4 => ?_)
        · have hq := pv_neg c_4 hq
          refine lv_aload_n (pc := 32) hx hb dX5_parse_32 rfl (lv_at hl 0 rfl) ?_
          refine va_get (pc := 33) (D := E.1) (ci := 3) (v := .int u_3.2.1.2.2.1) (C := RX5) (T := TX5) (N := 6) hx hb hts i_RX5 hown hK hP 0 rfl rfl 2 (Nat.le_of_ble_eq_true rfl) fl_32 (fun _ h9 => h9) rfl dX5_parse_33 ?_
          refine lv_if_ne (pc := 36) (tgt := 41) hx hb dX5_parse_36 (by decide) (fun c_5 => ?_) (fun c_5 => ?_)
          · have hq := pv_neg c_5 hq
            refine lv_aload_n (pc := 41) hx hb dX5_parse_41 rfl (lv_at hl 0 rfl) ?_
            refine va_get (pc := 42) (D := E.1) (ci := 3) (v := .int u_3.2.1.2.2.1) (C := RX5) (T := TX5) (N := 6) hx hb hts i_RX5 hown hK hP 0 rfl rfl 2 (Nat.le_of_ble_eq_true rfl) fl_32 (fun _ h9 => h9) rfl dX5_parse_42 ?_
            refine lv_iconst (pc := 45) (v := 3) hx hb dX5_parse_45 (by decide) ?_
            refine lv_icmp_eq (pc := 46) (tgt := 56) hx hb dX5_parse_46 (by decide) (fun c_6 => ?_) (fun c_6 => ?_)
            · have hq := pv_pos c_6 hq
              refine lv_aload_n (pc := 56) hx hb dX5_parse_56 rfl (lv_at hl 0 rfl) ?_
              obtain ⟨u_7, hu_7, hq⟩ := pv_bind hq
              refine pv_vRW (pc := 57) (rest := []) (st1 := []) (ws := pv_wP E q0 q1 u_3.2.1 ++ pv_wT E a0 a1 a2 a3 a4 a5 u_3.2.2) (ws' := pv_wP E q0 q1 ((u_7, u_3.2.2).1) ++ pv_wT E a0 a1 a2 a3 a4 a5 ((u_7, u_3.2.2).2)) [] ⟨hx, hb, hml, hown, hts⟩ hE hA hS hP (hD u_3.2) (c_X5_step l E q0 q1 u_3.2.1 u_7 hu_7) (cwV 0 hts gX5_parse_X5_step rfl rfl rfl (by decide +kernel) ⟨(Nat.le_of_ble_eq_true rfl), (Nat.le_of_ble_eq_true rfl)⟩) (va_recv hK hP (ci := 3) (q0 := 0) rfl rfl) [0, 1] rfl rfl rfl rfl rfl hl.1 rfl rfl (Nat.le_of_ble_eq_true rfl) dX5_parse_57 ⟨Nat.zero_le _, Nat.zero_le _⟩ (fun H locs hP hS => ?_)
              refine lv_iinc (pc := 60) (v := (x2 + 1)) (lv' := [(2, .int (x2 + 1)), (0, .ref q0), (1, .ref a0)]) hx hb dX5_parse_60 hl (k := 2) rfl rfl (Nat.le_of_ble_eq_true rfl) rfl (fun ls hl => ?_)
              refine lv_goto (pc := 63) (tgt := 11) hx hb dX5_parse_63 (by decide) ?_
              exact ih (x2 + 1) (u_7, u_3.2.2) H locs ls hP hS (lv_sub hl [1, 2, 0] rfl) hq
            · have hq := pv_neg c_6 hq
              refine lv_iconst (pc := 49) (v := (-1)) hx hb dX5_parse_49 (by decide) ?_
              refine lv_aload_n (pc := 50) hx hb dX5_parse_50 rfl (lv_at hl 0 rfl) ?_
              refine va_get (pc := 51) (D := E.1) (ci := 3) (v := .int u_3.2.1.2.2.2.1) (C := RX5) (T := TX5) (N := 6) hx hb hts i_RX5 hown hK hP 0 rfl rfl 3 (Nat.le_of_ble_eq_true rfl) fl_29 (fun _ h9 => h9) rfl dX5_parse_51 ?_
              refine lv_isub (pc := 54) hx hb dX5_parse_54 ?_
              exact pv_riRW (w := fun w : pv_PT × pv_TT => pv_wP E q0 q1 w.1 ++ pv_wT E a0 a1 a2 a3 a4 a5 w.2) hx hb hr hlk hAe hS hP (Option.some.inj hq) dX5_parse_55
          · have hq := pv_pos c_5 hq
            refine lv_iload_n (pc := 39) hx hb dX5_parse_39 rfl (lv_at hl 2 rfl) ?_
            exact pv_riRW (w := fun w : pv_PT × pv_TT => pv_wP E q0 q1 w.1 ++ pv_wT E a0 a1 a2 a3 a4 a5 w.2) hx hb hr hlk hAe hS hP (Option.some.inj hq) dX5_parse_40
        · have hq := pv_pos c_4 hq
          refine lv_iconst (pc := 25) (v := (-1)) hx hb dX5_parse_25 (by decide) ?_
          refine lv_aload_n (pc := 26) hx hb dX5_parse_26 rfl (lv_at hl 0 rfl) ?_
          refine va_get (pc := 27) (D := E.1) (ci := 3) (v := .int u_3.2.1.2.2.2.1) (C := RX5) (T := TX5) (N := 6) hx hb hts i_RX5 hown hK hP 0 rfl rfl 3 (Nat.le_of_ble_eq_true rfl) fl_29 (fun _ h9 => h9) rfl dX5_parse_27 ?_
          refine lv_isub (pc := 30) hx hb dX5_parse_30 ?_
          exact pv_riRW (w := fun w : pv_PT × pv_TT => pv_wP E q0 q1 w.1 ++ pv_wT E a0 a1 a2 a3 a4 a5 w.2) hx hb hr hlk hAe hS hP (Option.some.inj hq) dX5_parse_31
  suffices M0 : ∀ (H : Heap) (locs : List Loc), va_P E.1 vwCl (pv_wP E q0 q1 w0.1 ++ pv_wT E a0 a1 a2 a3 a4 a5 w0.2) H → va_S A s.heap H locs → W p l e r_X5_parse s m args below meth c H locs 0 0 (MQ below (pv_Rw E (pv_wP E q0 q1 w0.1 ++ pv_wT E a0 a1 a2 a3 a4 a5 w0.2) sz (some (.int F.1)) ((fun w : pv_PT × pv_TT => pv_wP E q0 q1 w.1 ++ pv_wT E a0 a1 a2 a3 a4 a5 w.2) F.2)) args s 0 0 A) (F0 m 0 ls []) from M0 s.heap [] hP hS
  intro H locs hP hS
  refine lv_aload_n (pc := 0) hx hb dX5_parse_0 rfl (lv_at hl 0 rfl) ?_
  refine lv_iconst (pc := 1) (v := 0) hx hb dX5_parse_1 (by decide) ?_
  refine va_put (pc := 2) (D := E.1) (ci := 3) (v := .int 0) (ty := .int) (C := RX5) (T := TX5) (N := 6) hx hb hts i_RX5 tyX5 tyX5_ok nmX5 hown hK hP (hD w0) hS 0 rfl rfl 4 (Nat.le_of_ble_eq_true rfl) fl_19 (fun _ h9 => h9) rfl (tyX5_ok 4 (Nat.le_of_ble_eq_true rfl)) rfl rfl (Nat.le_of_ble_eq_true rfl) dX5_parse_2 (fun H locs hP _ hS => ?_)
  have hP : va_P E.1 vwCl (pv_wP E q0 q1 (((w0.1.1, w0.1.2.1, w0.1.2.2.1, w0.1.2.2.2.1, 0, w0.1.2.2.2.2.2), w0.2).1) ++ pv_wT E a0 a1 a2 a3 a4 a5 (((w0.1.1, w0.1.2.1, w0.1.2.2.1, w0.1.2.2.2.1, 0, w0.1.2.2.2.2.2), w0.2).2)) H := hP
  refine lv_aload_n (pc := 5) hx hb dX5_parse_5 rfl (lv_at hl 0 rfl) ?_
  obtain ⟨u_1, hu_1, hq⟩ := pv_bind hq
  refine pv_vRW (pc := 6) (rest := []) (st1 := []) (ws := pv_wP E q0 q1 (((w0.1.1, w0.1.2.1, w0.1.2.2.1, w0.1.2.2.2.1, 0, w0.1.2.2.2.2.2), w0.2).1) ++ pv_wT E a0 a1 a2 a3 a4 a5 (((w0.1.1, w0.1.2.1, w0.1.2.2.1, w0.1.2.2.2.1, 0, w0.1.2.2.2.2.2), w0.2).2)) (ws' := pv_wP E q0 q1 ((u_1, w0.2).1) ++ pv_wT E a0 a1 a2 a3 a4 a5 ((u_1, w0.2).2)) [] ⟨hx, hb, hml, hown, hts⟩ hE hA hS hP (hD ((w0.1.1, w0.1.2.1, w0.1.2.2.1, w0.1.2.2.2.1, 0, w0.1.2.2.2.2.2), w0.2)) (c_X5_step l E q0 q1 (w0.1.1, w0.1.2.1, w0.1.2.2.1, w0.1.2.2.2.1, 0, w0.1.2.2.2.2.2) u_1 hu_1) (cwV 0 hts gX5_parse_X5_step rfl rfl rfl (by decide +kernel) ⟨(Nat.le_of_ble_eq_true rfl), (Nat.le_of_ble_eq_true rfl)⟩) (va_recv hK hP (ci := 3) (q0 := 0) rfl rfl) [0, 1] rfl rfl rfl rfl rfl hl.1 rfl rfl (Nat.le_of_ble_eq_true rfl) dX5_parse_6 ⟨Nat.zero_le _, Nat.zero_le _⟩ (fun H locs hP hS => ?_)
  refine lv_iconst (pc := 9) (v := 1) hx hb dX5_parse_9 (by decide) ?_
  refine lv_istore_n (pc := 10) (lv' := [(2, .int 1), (0, .ref q0), (1, .ref a0)]) hx hb dX5_parse_10 rfl hl (Nat.le_of_ble_eq_true rfl) rfl (fun ls hl => ?_)
  exact L_11 300 1 (u_1, w0.2) H locs ls hP hS (lv_sub hl [1, 2, 0] rfl) hq
