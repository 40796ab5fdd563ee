def m_X3_isMissing  (w : pv_ST) : Int32 :=
  if w.1 = 0 then 1 else 0
abbrev r_X3_isMissing : Room := { frames := 0, cells := 0, slots := 0, locals := 0 }
set_option maxHeartbeats 4000000 in
set_option maxRecDepth 100000 in
theorem c_X3_isMissing (l : Launch) (E : pv_E) (b0 b1 : Nat)  (w : pv_ST) : pv_RO l E yX3_isMissing wsX3_isMissing r_X3_isMissing (pv_wS E b0 b1 w) [.ref b0] (some (.int (m_X3_isMissing w))) := by
  generalize hq : m_X3_isMissing w = F
  intro sz
  refine pv_mk (by decide) rfl (Nat.le_of_ble_eq_true rfl) ?_
  intro p e s m args below meth c A hx hb hr hml hown hts hlk hAe hP hD0 hA hE hS ls hl
  have hown : s.vm.findClass RX3 = some m.cls := hown
  have hK := hE.1
  have hD := hD0
  have fl_13 : (Cond.fieldLink RX3 13 "ProvinceCards$Sheet" "bits" "I").before args s = true := hts _ (by decide +kernel)
  have i_RX3 : ∀ w ∈ wsX30, w ∈ wsX3_isMissing := by decide +kernel
  have hl : lv_has ls 1 [(0, .ref b0)] := hl
  suffices M0 : ∀ (locs : List Loc), va_S A s.heap s.heap locs → W p l e r_X3_isMissing s m args below meth c s.heap locs 0 0 (MQ below (pv_Ro (some (.int F))) args s 0 0 A) (F0 m 0 ls []) from M0 [] hS
  intro locs hS
  refine lv_aload_n (pc := 0) hx hb dX3_isMissing_0 rfl (lv_at hl 0 rfl) ?_
  refine va_get (pc := 1) (D := E.1) (ci := 1) (v := .int w.1) (C := RX3) (T := TX3) (N := 3) hx hb hts i_RX3 hown hK hP 0 rfl rfl 1 (Nat.le_of_ble_eq_true rfl) fl_13 (fun _ h9 => h9) rfl dX3_isMissing_1 ?_
  refine lv_if_ne (pc := 4) (tgt := 11) hx hb dX3_isMissing_4 (by decide) (fun c_1 => ?_) (fun c_1 => ?_)
  · have hq := pv_neg c_1 hq
    refine lv_iconst (pc := 11) (v := 0) hx hb dX3_isMissing_11 (by decide) ?_
    exact pv_rzRO hx hb hr hlk hS hq rfl dX3_isMissing_12
  · have hq := pv_pos c_1 hq
    refine lv_iconst (pc := 7) (v := 1) hx hb dX3_isMissing_7 (by decide) ?_
    refine lv_goto (pc := 8) (tgt := 12) hx hb dX3_isMissing_8 (by decide) ?_
    exact pv_rzRO hx hb hr hlk hS hq rfl dX3_isMissing_12
def m_J7_fill_d0a16_6 : Nat → Int64 → Int32 → Int32 → pv_AL → Option (pv_AL)
  | 0 => fun _ _ _ _ => none
  | n + 1 => fun x1 x3 x4 w =>
    if x4 ≤ x3 then (some w) else (pv_gd x3 40 ((m_J7_fill_d0a16_6 n) x1 (x3 + 1) x4 (vp_updL w x3.toNatClampNeg x1)))
def m_J7_fill_d0a16 (x1 : Int64) (w : pv_AL) : Option (pv_AL) :=
  m_J7_fill_d0a16_6 300 x1 0 40 w
abbrev r_J7_fill_d0a16 : Room := { frames := 0, cells := 0, slots := 0, locals := 0 }
set_option maxHeartbeats 4000000 in
set_option maxRecDepth 100000 in
theorem c_J7_fill_d0a16 (l : Launch) (E : pv_E) (a0 : Nat) (x1 : Int64) (w0 : pv_AL) (F : pv_AL) (hq : m_J7_fill_d0a16 x1 w0 = some F) : pv_RW l E yJ7_fill_d0a16 wsJ7_fill_d0a16 r_J7_fill_d0a16 (pv_wAl E a0 w0) [.ref a0, .long x1] (none) (pv_wAl E a0 F) := by
  intro sz
  refine pv_mk (by decide) rfl (Nat.le_of_ble_eq_true rfl) ?_
  intro p e s m args below meth c A hx hb hr hml hown hts hlk hAe hP hD0 hA hE hS ls hl
  have hown : s.vm.findClass RJ7 = some m.cls := hown
  have hK := hE.1
  have hD : ∀ w : pv_AL, va_D A (pv_wAl E a0 w) := fun w => pv_Dm (ws := pv_wAl E a0 w0) (ws' := pv_wAl E a0 w) rfl hD0
  have hP : va_P E.1 vwCl (pv_wAl E a0 w0) s.heap := hP
  have hl : lv_has ls 5 [(0, .ref a0), (1, .long x1)] := hl
  have L_6 : ∀ n : Nat, ∀ (x1 : Int64) (x3 : Int32) (x4 : Int32) (w : pv_AL) (H : Heap) (locs : List Loc) (ls : Array Slot), va_P E.1 vwCl (pv_wAl E a0 w) H → va_S A s.heap H locs → lv_has ls 5 [(0, .ref a0), (1, .long x1), (3, .int x3), (4, .int x4)] → m_J7_fill_d0a16_6 n x1 x3 x4 w = some F → W p l e r_J7_fill_d0a16 s m args below meth c H locs 0 0 (MQ below (pv_Rw E (pv_wAl E a0 w0) sz (none) ((fun w : pv_AL => pv_wAl E a0 w) F)) args s 0 0 A) (F0 m 6 ls []) := by
    intro n
    induction n with
    | zero =>
      intro x1 x3 x4 w H locs ls hP hS hl hq
      exact (pv_no hq).elim
    | succ n ih =>
      intro x1 x3 x4 w H locs ls hP hS hl hq
      refine lv_iload_n (pc := 6) hx hb dJ7_fill_d0a16_6 rfl (lv_at hl 2 rfl) ?_
      refine lv_iload (pc := 7) hx hb dJ7_fill_d0a16_7 (lv_at hl 3 rfl) ?_
      refine lv_icmp_ge (pc := 9) (tgt := 22) hx hb dJ7_fill_d0a16_9 (by decide) (fun c_1 => ?_) (fun c_1 => ?_)
      · have hq := pv_pos c_1 hq
        exact pv_rvRW (w := fun w : pv_AL => pv_wAl E a0 w) hx hb hr hlk hAe hS hP (Option.some.inj hq) dJ7_fill_d0a16_22
      · have hq := pv_neg c_1 hq
        refine lv_aload_n (pc := 12) hx hb dJ7_fill_d0a16_12 rfl (lv_at hl 0 rfl) ?_
        refine lv_iload_n (pc := 13) hx hb dJ7_fill_d0a16_13 rfl (lv_at hl 2 rfl) ?_
        refine lv_lload_n (pc := 14) hx hb dJ7_fill_d0a16_14 rfl (lv_at hl 1 rfl) ?_
        obtain ⟨h_2, hq⟩ := pv_gd_some hq
        refine va_last (pc := 15) (D := E.1) hx hb hK hP (hD w) hS 0 1 rfl rfl h_2 dJ7_fill_d0a16_15 (fun H locs hP _ hS => ?_)
        have hP : va_P E.1 vwCl (pv_wAl E a0 (vp_updL w x3.toNatClampNeg x1)) H := hP
        refine lv_iinc (pc := 16) (v := (x3 + 1)) (lv' := [(3, .int (x3 + 1)), (0, .ref a0), (1, .long x1), (4, .int x4)]) hx hb dJ7_fill_d0a16_16 hl (k := 2) rfl rfl (Nat.le_of_ble_eq_true rfl) rfl (fun ls hl => ?_)
        refine lv_goto (pc := 19) (tgt := 6) hx hb dJ7_fill_d0a16_19 (by decide) ?_
        exact ih x1 (x3 + 1) x4 (vp_updL w x3.toNatClampNeg x1) H locs ls hP hS (lv_sub hl [1, 2, 0, 3] rfl) hq
  suffices M0 : ∀ (H : Heap) (locs : List Loc), va_P E.1 vwCl (pv_wAl E a0 w0) H → va_S A s.heap H locs → W p l e r_J7_fill_d0a16 s m args below meth c H locs 0 0 (MQ below (pv_Rw E (pv_wAl E a0 w0) sz (none) ((fun w : pv_AL => pv_wAl E a0 w) F)) args s 0 0 A) (F0 m 0 ls []) from M0 s.heap [] hP hS
  intro H locs hP hS
  refine lv_iconst (pc := 0) (v := 0) hx hb dJ7_fill_d0a16_0 (by decide) ?_
  refine lv_istore_n (pc := 1) (lv' := [(3, .int 0), (0, .ref a0), (1, .long x1)]) hx hb dJ7_fill_d0a16_1 rfl hl (Nat.le_of_ble_eq_true rfl) rfl (fun ls hl => ?_)
  refine lv_aload_n (pc := 2) hx hb dJ7_fill_d0a16_2 rfl (lv_at hl 1 rfl) ?_
  refine va_alen (pc := 3) (D := E.1) (v := 40) hx hb hK hP 0 1 rfl rfl rfl dJ7_fill_d0a16_3 ?_
  refine lv_istore (pc := 4) (lv' := [(4, .int 40), (3, .int 0), (0, .ref a0), (1, .long x1)]) hx hb dJ7_fill_d0a16_4 hl (Nat.le_of_ble_eq_true rfl) rfl (fun ls hl => ?_)
  exact L_6 300 x1 0 40 w0 H locs ls hP hS (lv_sub hl [2, 3, 1, 0] rfl) hq
def m_X3_shape_15 (y1 : Int32) (w : pv_ST) : Option (pv_ST) :=
  Option.bind (m_J7_fill_d0a16 0 w.2.2) fun u_2 => (some (w.1, y1, u_2))
def m_X3_shape (x1 : Int32) (x2 : Int32) (w : pv_ST) : Option (pv_ST) :=
  if x1 = 0 then (m_X3_shape_15 0 (x1, w.2.1, w.2.2)) else (m_X3_shape_15 x2 (x1, w.2.1, w.2.2))
abbrev r_X3_shape : Room := { frames := 1, cells := 0, slots := 0, locals := 24 }
set_option maxHeartbeats 4000000 in
set_option maxRecDepth 100000 in
theorem c_X3_shape (l : Launch) (E : pv_E) (b0 b1 : Nat) (x1 : Int32) (x2 : Int32) (w0 : pv_ST) (F : pv_ST) (hq : m_X3_shape x1 x2 w0 = some F) : pv_RW l E yX3_shape wsX3_shape r_X3_shape (pv_wS E b0 b1 w0) [.ref b0, .int x1, .int x2] (none) (pv_wS E b0 b1 F) := by
  intro sz
  refine pv_mk (by decide) rfl (Nat.le_of_ble_eq_true rfl) ?_
  intro p e s m args below meth c A hx hb hr hml hown hts hlk hAe hP hD0 hA hE hS ls hl
  have hown : s.vm.findClass RX3 = some m.cls := hown
  have hK := hE.1
  have hD : ∀ w : pv_ST, va_D A (pv_wS E b0 b1 w) := fun w => pv_Dm (ws := pv_wS E b0 b1 w0) (ws' := pv_wS E b0 b1 w) rfl hD0
  have hP : va_P E.1 vwCl (pv_wS E b0 b1 w0) s.heap := hP
  have fl_13 : (Cond.fieldLink RX3 13 "ProvinceCards$Sheet" "bits" "I").before args s = true := hts _ (by decide +kernel)
  have fl_17 : (Cond.fieldLink RX3 17 "ProvinceCards$Sheet" "size" "I").before args s = true := hts _ (by decide +kernel)
  have fl_9 : (Cond.fieldLink RX3 9 "ProvinceCards$Sheet" "numbers" "[J").before args s = true := hts _ (by decide +kernel)
  have i_RX3 : ∀ w ∈ wsX30, w ∈ wsX3_shape := by decide +kernel
  have hl : lv_has ls 3 [(0, .ref b0), (1, .int x1), (2, .int x2)] := hl
  have B_15 : ∀ (y1 : Int32) (w : pv_ST) (H : Heap) (locs : List Loc) (ls : Array Slot), va_P E.1 vwCl (pv_wS E b0 b1 w) H → va_S A s.heap H locs → lv_has ls 3 [(0, .ref b0)] → m_X3_shape_15 y1 w = some F → W p l e r_X3_shape s m args below meth c H locs 0 0 (MQ below (pv_Rw E (pv_wS E b0 b1 w0) sz (none) ((fun w : pv_ST => pv_wS E b0 b1 w) F)) args s 0 0 A) (F0 m 15 ls [.int y1, .ref b0]) := by
    intro y1 w H locs ls hP hS hl hq
    refine va_put (pc := 15) (D := E.1) (ci := 1) (v := .int y1) (ty := .int) (C := RX3) (T := TX3) (N := 3) hx hb hts i_RX3 tyX3 tyX3_ok nmX3 hown hK hP (hD w) hS 0 rfl rfl 2 (Nat.le_of_ble_eq_true rfl) fl_17 (fun _ h9 => h9) rfl (tyX3_ok 2 (Nat.le_of_ble_eq_true rfl)) rfl rfl (Nat.le_of_ble_eq_true rfl) dX3_shape_15 (fun H locs hP _ hS => ?_)
    have hP : va_P E.1 vwCl (pv_wS E b0 b1 (w.1, y1, w.2.2)) H := hP
    refine lv_aload_n (pc := 18) hx hb dX3_shape_18 rfl (lv_at hl 0 rfl) ?_
    refine va_get (pc := 19) (D := E.1) (ci := 1) (v := .ref b1) (C := RX3) (T := TX3) (N := 3) hx hb hts i_RX3 hown hK hP 0 rfl rfl 0 (Nat.le_of_ble_eq_true rfl) fl_9 (fun _ h9 => h9) rfl dX3_shape_19 ?_
    refine lv_lconst (pc := 22) (v := 0) hx hb dX3_shape_22 (by decide) ?_
    obtain ⟨u_2, hu_2, hq⟩ := pv_bind hq
    refine pv_sRW (pc := 23) (rest := []) (st1 := []) (ws := pv_wS E b0 b1 (w.1, y1, w.2.2)) (ws' := pv_wS E b0 b1 (w.1, y1, u_2)) [.ref b1, .long 0] ⟨hx, hb, hml, hown, hts⟩ hE hA hS hP (hD (w.1, y1, w.2.2)) (c_J7_fill_d0a16 l E b1 0 w.2.2 u_2 hu_2) (va_cwS 2 hts gX3_shape_J7_fill_d0a16 rfl rfl rfl (by decide +kernel) ⟨(Nat.le_of_ble_eq_true rfl), (Nat.le_of_ble_eq_true rfl)⟩) [1] rfl rfl rfl rfl rfl hl.1 rfl rfl (Nat.le_of_ble_eq_true rfl) dX3_shape_23 ⟨Nat.zero_le _, Nat.zero_le _⟩ (fun H locs hP hS => ?_)
    exact pv_rvRW (w := fun w : pv_ST => pv_wS E b0 b1 w) hx hb hr hlk hAe hS hP (Option.some.inj hq) dX3_shape_26
  suffices M0 : ∀ (H : Heap) (locs : List Loc), va_P E.1 vwCl (pv_wS E b0 b1 w0) H → va_S A s.heap H locs → W p l e r_X3_shape s m args below meth c H locs 0 0 (MQ below (pv_Rw E (pv_wS E b0 b1 w0) sz (none) ((fun w : pv_ST => pv_wS E b0 b1 w) F)) args s 0 0 A) (F0 m 0 ls []) from M0 s.heap [] hP hS
  intro H locs hP hS
  refine lv_aload_n (pc := 0) hx hb dX3_shape_0 rfl (lv_at hl 0 rfl) ?_
  refine lv_iload_n (pc := 1) hx hb dX3_shape_1 rfl (lv_at hl 1 rfl) ?_
  refine va_put (pc := 2) (D := E.1) (ci := 1) (v := .int x1) (ty := .int) (C := RX3) (T := TX3) (N := 3) hx hb hts i_RX3 tyX3 tyX3_ok nmX3 hown hK hP (hD w0) hS 0 rfl rfl 1 (Nat.le_of_ble_eq_true rfl) fl_13 (fun _ h9 => h9) rfl (tyX3_ok 1 (Nat.le_of_ble_eq_true rfl)) rfl rfl (Nat.le_of_ble_eq_true rfl) dX3_shape_2 (fun H locs hP _ hS => ?_)
  have hP : va_P E.1 vwCl (pv_wS E b0 b1 (x1, w0.2.1, w0.2.2)) H := hP
  refine lv_aload_n (pc := 5) hx hb dX3_shape_5 rfl (lv_at hl 0 rfl) ?_
  refine lv_iload_n (pc := 6) hx hb dX3_shape_6 rfl (lv_at hl 1 rfl) ?_
  refine lv_if_ne (pc := 7) (tgt := 14) hx hb dX3_shape_7 (by decide) (fun c_1 => ?_) (fun c_1 => ?_)
  · have hq := pv_neg c_1 hq
    refine lv_iload_n (pc := 14) hx hb dX3_shape_14 rfl (lv_at hl 2 rfl) ?_
    exact B_15 x2 (x1, w0.2.1, w0.2.2) H locs ls hP hS (lv_sub hl [0] rfl) hq
  · have hq := pv_pos c_1 hq
    refine lv_iconst (pc := 10) (v := 0) hx hb dX3_shape_10 (by decide) ?_
    refine lv_goto (pc := 11) (tgt := 15) hx hb dX3_shape_11 (by decide) ?_
    exact B_15 0 (x1, w0.2.1, w0.2.2) H locs ls hP hS (lv_sub hl [0] rfl) hq
def m_X3_put (x1 : Int32) (x2 : Int64) (w : pv_ST) : Option (pv_ST) :=
  if x1 < 0 then (some w) else (if x1 < w.2.1 then (if w.1 = 8 then (pv_gd x1 40 (some (w.1, w.2.1, (vp_updL w.2.2 x1.toNatClampNeg x2.toInt32.toInt8.toInt32.toInt64)))) else (if w.1 = 16 then (pv_gd x1 40 (some (w.1, w.2.1, (vp_updL w.2.2 x1.toNatClampNeg x2.toInt32.toInt16.toInt32.toInt64)))) else (pv_gd x1 40 (some (w.1, w.2.1, (vp_updL w.2.2 x1.toNatClampNeg x2)))))) else (some w))
abbrev r_X3_put : Room := { frames := 0, cells := 0, slots := 0, locals := 0 }
set_option maxHeartbeats 4000000 in
set_option maxRecDepth 100000 in
theorem c_X3_put (l : Launch) (E : pv_E) (b0 b1 : Nat) (x1 : Int32) (x2 : Int64) (w0 : pv_ST) (F : pv_ST) (hq : m_X3_put x1 x2 w0 = some F) : pv_RW l E yX3_put wsX3_put r_X3_put (pv_wS E b0 b1 w0) [.ref b0, .int x1, .long x2] (none) (pv_wS E b0 b1 F) := by
  intro sz
  refine pv_mk (by decide) rfl (Nat.le_of_ble_eq_true rfl) ?_
  intro p e s m args below meth c A hx hb hr hml hown hts hlk hAe hP hD0 hA hE hS ls hl
  have hown : s.vm.findClass RX3 = some m.cls := hown
  have hK := hE.1
  have hD : ∀ w : pv_ST, va_D A (pv_wS E b0 b1 w) := fun w => pv_Dm (ws := pv_wS E b0 b1 w0) (ws' := pv_wS E b0 b1 w) rfl hD0
  have hP : va_P E.1 vwCl (pv_wS E b0 b1 w0) s.heap := hP
  have fl_17 : (Cond.fieldLink RX3 17 "ProvinceCards$Sheet" "size" "I").before args s = true := hts _ (by decide +kernel)
  have fl_9 : (Cond.fieldLink RX3 9 "ProvinceCards$Sheet" "numbers" "[J").before args s = true := hts _ (by decide +kernel)
  have fl_13 : (Cond.fieldLink RX3 13 "ProvinceCards$Sheet" "bits" "I").before args s = true := hts _ (by decide +kernel)
  have i_RX3 : ∀ w ∈ wsX30, w ∈ wsX3_put := by decide +kernel
  have hl : lv_has ls 4 [(0, .ref b0), (1, .int x1), (2, .long x2)] := hl
  suffices M0 : ∀ (H : Heap) (locs : List Loc), va_P E.1 vwCl (pv_wS E b0 b1 w0) H → va_S A s.heap H locs → W p l e r_X3_put s m args below meth c H locs 0 0 (MQ below (pv_Rw E (pv_wS E b0 b1 w0) sz (none) ((fun w : pv_ST => pv_wS E b0 b1 w) F)) args s 0 0 A) (F0 m 0 ls []) from M0 s.heap [] hP hS
  intro H locs hP hS
  refine lv_iload_n (pc := 0) hx hb dX3_put_0 rfl (lv_at hl 1 rfl) ?_
  refine lv_if_lt (pc := 1) (tgt := 12) hx hb dX3_put_1 (by decide) (fun c_1 => ?_) (fun c_1 => ?_)
  · have hq := pv_pos c_1 hq
    exact pv_rvRW (w := fun w : pv_ST => pv_wS E b0 b1 w) hx hb hr hlk hAe hS hP (Option.some.inj hq) dX3_put_12
  · have hq := pv_neg c_1 hq
    refine lv_iload_n (pc := 4) hx hb dX3_put_4 rfl (lv_at hl 1 rfl) ?_
    refine lv_aload_n (pc := 5) hx hb dX3_put_5 rfl (lv_at hl 0 rfl) ?_
    refine va_get (pc := 6) (D := E.1) (ci := 1) (v := .int w0.2.1) (C := RX3) (T := TX3) (N := 3) hx hb hts i_RX3 hown hK hP 0 rfl rfl 2 (Nat.le_of_ble_eq_true rfl) fl_17 (fun _ h9 => h9) rfl dX3_put_6 ?_
    refine lv_icmp_lt (pc := 9) (tgt := 13) hx hb dX3_put_9 (by decide) (fun c_2 => ?_) (fun c_2 => ?_)
    · have hq := pv_pos c_2 hq
      refine lv_aload_n (pc := 13) hx hb dX3_put_13 rfl (lv_at hl 0 rfl) ?_
      refine va_get (pc := 14) (D := E.1) (ci := 1) (v := .ref b1) (C := RX3) (T := TX3) (N := 3) hx hb hts i_RX3 hown hK hP 0 rfl rfl 0 (Nat.le_of_ble_eq_true rfl) fl_9 (fun _ h9 => h9) rfl dX3_put_14 ?_
      refine lv_iload_n (pc := 17) hx hb dX3_put_17 rfl (lv_at hl 1 rfl) ?_
      refine lv_aload_n (pc := 18) hx hb dX3_put_18 rfl (lv_at hl 0 rfl) ?_
      refine va_get (pc := 19) (D := E.1) (ci := 1) (v := .int w0.1) (C := RX3) (T := TX3) (N := 3) hx hb hts i_RX3 hown hK hP 0 rfl rfl 1 (Nat.le_of_ble_eq_true rfl) fl_13 (fun _ h9 => h9) rfl dX3_put_19 ?_
      refine lv_bipush (pc := 22) (v := 8) hx hb dX3_put_22 (by decide) ?_
      refine lv_icmp_ne (pc := 24) (tgt := 34) hx hb dX3_put_24 (by decide) (fun c_3 => ?_) (fun c_3 => ?_)
      · have hq := pv_neg c_3 hq
        refine lv_aload_n (pc := 34) hx hb dX3_put_34 rfl (lv_at hl 0 rfl) ?_
        refine va_get (pc := 35) (D := E.1) (ci := 1) (v := .int w0.1) (C := RX3) (T := TX3) (N := 3) hx hb hts i_RX3 hown hK hP 0 rfl rfl 1 (Nat.le_of_ble_eq_true rfl) fl_13 (fun _ h9 => h9) rfl dX3_put_35 ?_
        refine lv_bipush (pc := 38) (v := 16) hx hb dX3_put_38 (by decide) ?_
        refine lv_icmp_ne (pc := 40) (tgt := 50) hx hb dX3_put_40 (by decide) (fun c_4 => ?_) (fun c_4 => ?_)
        · have hq := pv_neg c_4 hq
          refine lv_lload_n (pc := 50) hx hb dX3_put_50 rfl (lv_at hl 2 rfl) ?_
          obtain ⟨h_5, hq⟩ := pv_gd_some hq
          refine va_last (pc := 51) (D := E.1) hx hb hK hP (hD w0) hS 1 1 rfl rfl h_5 dX3_put_51 (fun H locs hP _ hS => ?_)
          have hP : va_P E.1 vwCl (pv_wS E b0 b1 (w0.1, w0.2.1, (vp_updL w0.2.2 x1.toNatClampNeg x2))) H := hP
          exact pv_rvRW (w := fun w : pv_ST => pv_wS E b0 b1 w) hx hb hr hlk hAe hS hP (Option.some.inj hq) dX3_put_52
        · have hq := pv_pos c_4 hq
          refine lv_lload_n (pc := 43) hx hb dX3_put_43 rfl (lv_at hl 2 rfl) ?_
          refine lv_l2i (pc := 44) (v := x2.toInt32) hx hb dX3_put_44 rfl ?_
          refine lv_i2s (pc := 45) (v := x2.toInt32.toInt16.toInt32) hx hb dX3_put_45 rfl ?_
          refine lv_i2l (pc := 46) (v := x2.toInt32.toInt16.toInt32.toInt64) hx hb dX3_put_46 rfl ?_
          refine lv_goto (pc := 47) (tgt := 51) hx hb dX3_put_47 (by decide) ?_
          obtain ⟨h_6, hq⟩ := pv_gd_some hq
          refine va_last (pc := 51) (D := E.1) hx hb hK hP (hD w0) hS 1 1 rfl rfl h_6 dX3_put_51 (fun H locs hP _ hS => ?_)
          have hP : va_P E.1 vwCl (pv_wS E b0 b1 (w0.1, w0.2.1, (vp_updL w0.2.2 x1.toNatClampNeg x2.toInt32.toInt16.toInt32.toInt64))) H := hP
          exact pv_rvRW (w := fun w : pv_ST => pv_wS E b0 b1 w) hx hb hr hlk hAe hS hP (Option.some.inj hq) dX3_put_52
      · have hq := pv_pos c_3 hq
        refine lv_lload_n (pc := 27) hx hb dX3_put_27 rfl (lv_at hl 2 rfl) ?_
        refine lv_l2i (pc := 28) (v := x2.toInt32) hx hb dX3_put_28 rfl ?_
        refine lv_i2b (pc := 29) (v := x2.toInt32.toInt8.toInt32) hx hb dX3_put_29 rfl ?_
        refine lv_i2l (pc := 30) (v := x2.toInt32.toInt8.toInt32.toInt64) hx hb dX3_put_30 rfl ?_
        refine lv_goto (pc := 31) (tgt := 51) hx hb dX3_put_31 (by decide) ?_
        obtain ⟨h_7, hq⟩ := pv_gd_some hq
        refine va_last (pc := 51) (D := E.1) hx hb hK hP (hD w0) hS 1 1 rfl rfl h_7 dX3_put_51 (fun H locs hP _ hS => ?_)
        have hP : va_P E.1 vwCl (pv_wS E b0 b1 (w0.1, w0.2.1, (vp_updL w0.2.2 x1.toNatClampNeg x2.toInt32.toInt8.toInt32.toInt64))) H := hP
        exact pv_rvRW (w := fun w : pv_ST => pv_wS E b0 b1 w) hx hb hr hlk hAe hS hP (Option.some.inj hq) dX3_put_52
    · have hq := pv_neg c_2 hq
      exact pv_rvRW (w := fun w : pv_ST => pv_wS E b0 b1 w) hx hb hr hlk hAe hS hP (Option.some.inj hq) dX3_put_12
def m_X3_has (x1 : Int32) (x2 : Int32) (w : pv_ST) : Int32 :=
  if x1 < 0 then 0 else (if x2 < 0 then 0 else (if w.2.1 < x1 then 0 else (if (w.2.1 - x1) < x2 then 0 else 1)))
abbrev r_X3_has : Room := { frames := 0, cells := 0, slots := 0, locals := 0 }
set_option maxHeartbeats 4000000 in
set_option maxRecDepth 100000 in
theorem c_X3_has (l : Launch) (E : pv_E) (b0 b1 : Nat) (x1 : Int32) (x2 : Int32) (w : pv_ST) : pv_RO l E yX3_has wsX3_has r_X3_has (pv_wS E b0 b1 w) [.ref b0, .int x1, .int x2] (some (.int (m_X3_has x1 x2 w))) := by
  generalize hq : m_X3_has x1 x2 w = F
  intro sz
  refine pv_mk (by decide) rfl (Nat.le_of_ble_eq_true rfl) ?_
  intro p e s m args below meth c A hx hb hr hml hown hts hlk hAe hP hD0 hA hE hS ls hl
  have hown : s.vm.findClass RX3 = some m.cls := hown
  have hK := hE.1
  have hD := hD0
  have fl_17 : (Cond.fieldLink RX3 17 "ProvinceCards$Sheet" "size" "I").before args s = true := hts _ (by decide +kernel)
  have i_RX3 : ∀ w ∈ wsX30, w ∈ wsX3_has := by decide +kernel
  have hl : lv_has ls 3 [(0, .ref b0), (1, .int x1), (2, .int x2)] := hl
  suffices M0 : ∀ (locs : List Loc), va_S A s.heap s.heap locs → W p l e r_X3_has s m args below meth c s.heap locs 0 0 (MQ below (pv_Ro (some (.int F))) args s 0 0 A) (F0 m 0 ls []) from M0 [] hS
  intro locs hS
  refine lv_iload_n (pc := 0) hx hb dX3_has_0 rfl (lv_at hl 1 rfl) ?_
  refine lv_if_lt (pc := 1) (tgt := 30) hx hb dX3_has_1 (by decide) (fun c_1 => ?_) (fun c_1 => ?_)
  · have hq := pv_pos c_1 hq
    refine lv_iconst (pc := 30) (v := 0) hx hb dX3_has_30 (by decide) ?_
    exact pv_rzRO hx hb hr hlk hS hq rfl dX3_has_31
  · have hq := pv_neg c_1 hq
    refine lv_iload_n (pc := 4) hx hb dX3_has_4 rfl (lv_at hl 2 rfl) ?_
    refine lv_if_lt (pc := 5) (tgt := 30) hx hb dX3_has_5 (by decide) (fun c_2 => ?_) (fun c_2 => ?_)
    · have hq := pv_pos c_2 hq
      refine lv_iconst (pc := 30) (v := 0) hx hb dX3_has_30 (by decide) ?_
      exact pv_rzRO hx hb hr hlk hS hq rfl dX3_has_31
    · have hq := pv_neg c_2 hq
      refine lv_iload_n (pc := 8) hx hb dX3_has_8 rfl (lv_at hl 1 rfl) ?_
      refine lv_aload_n (pc := 9) hx hb dX3_has_9 rfl (lv_at hl 0 rfl) ?_
      refine va_get (pc := 10) (D := E.1) (ci := 1) (v := .int w.2.1) (C := RX3) (T := TX3) (N := 3) hx hb hts i_RX3 hown hK hP 0 rfl rfl 2 (Nat.le_of_ble_eq_true rfl) fl_17 (fun _ h9 => h9) rfl dX3_has_10 ?_
      refine lv_icmp_gt (pc := 13) (tgt := 30) hx hb dX3_has_13 (by decide) (fun c_3 => ?_) (fun c_3 => ?_)
      · have hq := pv_pos c_3 hq
        refine lv_iconst (pc := 30) (v := 0) hx hb dX3_has_30 (by decide) ?_
        exact pv_rzRO hx hb hr hlk hS hq rfl dX3_has_31
      · have hq := pv_neg c_3 hq
        refine lv_iload_n (pc := 16) hx hb dX3_has_16 rfl (lv_at hl 2 rfl) ?_
        refine lv_aload_n (pc := 17) hx hb dX3_has_17 rfl (lv_at hl 0 rfl) ?_
        refine va_get (pc := 18) (D := E.1) (ci := 1) (v := .int w.2.1) (C := RX3) (T := TX3) (N := 3) hx hb hts i_RX3 hown hK hP 0 rfl rfl 2 (Nat.le_of_ble_eq_true rfl) fl_17 (fun _ h9 => h9) rfl dX3_has_18 ?_
        refine lv_iload_n (pc := 21) hx hb dX3_has_21 rfl (lv_at hl 1 rfl) ?_
        refine lv_isub (pc := 22) hx hb dX3_has_22 ?_
        refine lv_icmp_gt (pc := 23) (tgt := 30) hx hb dX3_has_23 (by decide) (fun c_4 => ?_) (fun c_4 => ?_)
        · have hq := pv_pos c_4 hq
          refine lv_iconst (pc := 30) (v := 0) hx hb dX3_has_30 (by decide) ?_
          exact pv_rzRO hx hb hr hlk hS hq rfl dX3_has_31
        · have hq := pv_neg c_4 hq
          refine lv_iconst (pc := 26) (v := 1) hx hb dX3_has_26 (by decide) ?_
          refine lv_goto (pc := 27) (tgt := 31) hx hb dX3_has_27 (by decide) ?_
          exact pv_rzRO hx hb hr hlk hS hq rfl dX3_has_31
