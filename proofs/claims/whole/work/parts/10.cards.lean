def m_J6_bitCount_0f7a4_41 (x0 : Int32) : Int32 :=
  ((x0 + (pv_ushr x0 16)) &&& 63)
def m_J6_bitCount_0f7a4_34 (x0 : Int32) : Int32 :=
  m_J6_bitCount_0f7a4_41 (x0 + (pv_ushr x0 8))
def m_J6_bitCount_0f7a4_24 (x0 : Int32) : Int32 :=
  m_J6_bitCount_0f7a4_34 ((x0 + (pv_ushr x0 4)) &&& 252645135)
def m_J6_bitCount_0f7a4_10 (x0 : Int32) : Int32 :=
  m_J6_bitCount_0f7a4_24 ((x0 &&& 858993459) + ((pv_ushr x0 2) &&& 858993459))
def m_J6_bitCount_0f7a4 (x0 : Int32) : Int32 :=
  m_J6_bitCount_0f7a4_10 (x0 - ((pv_ushr x0 1) &&& 1431655765))
abbrev r_J6_bitCount_0f7a4 : Room := { frames := 0, cells := 0, slots := 0, locals := 0 }
set_option maxHeartbeats 4000000 in
set_option maxRecDepth 100000 in
theorem c_J6_bitCount_0f7a4 (l : Launch) (E : pv_E)  (x0 : Int32) : pv_RO l E yJ6_bitCount_0f7a4 wsJ6_bitCount_0f7a4 r_J6_bitCount_0f7a4 (([] : va_W)) [.int x0] (some (.int (m_J6_bitCount_0f7a4 x0))) := by
  generalize hq : m_J6_bitCount_0f7a4 x0 = F
  intro sz
  refine pv_mk (by decide) rfl (Nat.le_of_ble_eq_true rfl) ?_
  intro p e s m args below meth c A hx hb hr hml hown hts hlk hAe hP hD0 hA hE hS ls hl
  have hown : s.vm.findClass RJ6 = some m.cls := hown
  have hK := hE.1
  have hD := hD0
  have lc_265 : (Cond.constant RJ6 265 (1431655765)).before args s = true := hts _ (by decide +kernel)
  have lc_266 : (Cond.constant RJ6 266 (858993459)).before args s = true := hts _ (by decide +kernel)
  have lc_267 : (Cond.constant RJ6 267 (252645135)).before args s = true := hts _ (by decide +kernel)
  have hl : lv_has ls 1 [(0, .int x0)] := hl
  have B_41 : ∀ (x0 : Int32) (locs : List Loc) (ls : Array Slot), va_S A s.heap s.heap locs → lv_has ls 1 [(0, .int x0)] → m_J6_bitCount_0f7a4_41 x0 = F → W p l e r_J6_bitCount_0f7a4 s m args below meth c s.heap locs 0 0 (MQ below (pv_Ro (some (.int F))) args s 0 0 A) (F0 m 41 ls []) := by
    intro x0 locs ls hS hl hq
    refine lv_iload_n (pc := 41) hx hb dJ6_bitCount_0f7a4_41 rfl (lv_at hl 0 rfl) ?_
    refine lv_iload_n (pc := 42) hx hb dJ6_bitCount_0f7a4_42 rfl (lv_at hl 0 rfl) ?_
    refine lv_bipush (pc := 43) (v := 16) hx hb dJ6_bitCount_0f7a4_43 (by decide) ?_
    refine lv_iushr (pc := 45) (v := pv_ushr x0 16) hx hb dJ6_bitCount_0f7a4_45 rfl ?_
    refine lv_iadd (pc := 46) hx hb dJ6_bitCount_0f7a4_46 ?_
    refine lv_istore_n (pc := 47) (lv' := [(0, .int (x0 + (pv_ushr x0 16)))]) hx hb dJ6_bitCount_0f7a4_47 rfl hl (Nat.le_of_ble_eq_true rfl) rfl (fun ls hl => ?_)
    refine lv_iload_n (pc := 48) hx hb dJ6_bitCount_0f7a4_48 rfl (lv_at hl 0 rfl) ?_
    refine lv_bipush (pc := 49) (v := 63) hx hb dJ6_bitCount_0f7a4_49 (by decide) ?_
    refine lv_iand (pc := 51) hx hb dJ6_bitCount_0f7a4_51 ?_
    exact pv_riRO hx hb hr hlk hS hq dJ6_bitCount_0f7a4_52
  have B_34 : ∀ (x0 : Int32) (locs : List Loc) (ls : Array Slot), va_S A s.heap s.heap locs → lv_has ls 1 [(0, .int x0)] → m_J6_bitCount_0f7a4_34 x0 = F → W p l e r_J6_bitCount_0f7a4 s m args below meth c s.heap locs 0 0 (MQ below (pv_Ro (some (.int F))) args s 0 0 A) (F0 m 34 ls []) := by
    intro x0 locs ls hS hl hq
    refine lv_iload_n (pc := 34) hx hb dJ6_bitCount_0f7a4_34 rfl (lv_at hl 0 rfl) ?_
    refine lv_iload_n (pc := 35) hx hb dJ6_bitCount_0f7a4_35 rfl (lv_at hl 0 rfl) ?_
    refine lv_bipush (pc := 36) (v := 8) hx hb dJ6_bitCount_0f7a4_36 (by decide) ?_
    refine lv_iushr (pc := 38) (v := pv_ushr x0 8) hx hb dJ6_bitCount_0f7a4_38 rfl ?_
    refine lv_iadd (pc := 39) hx hb dJ6_bitCount_0f7a4_39 ?_
    refine lv_istore_n (pc := 40) (lv' := [(0, .int (x0 + (pv_ushr x0 8)))]) hx hb dJ6_bitCount_0f7a4_40 rfl hl (Nat.le_of_ble_eq_true rfl) rfl (fun ls hl => ?_)
    exact B_41 (x0 + (pv_ushr x0 8)) locs ls hS (lv_sub hl [0] rfl) hq
  have B_24 : ∀ (x0 : Int32) (locs : List Loc) (ls : Array Slot), va_S A s.heap s.heap locs → lv_has ls 1 [(0, .int x0)] → m_J6_bitCount_0f7a4_24 x0 = F → W p l e r_J6_bitCount_0f7a4 s m args below meth c s.heap locs 0 0 (MQ below (pv_Ro (some (.int F))) args s 0 0 A) (F0 m 24 ls []) := by
    intro x0 locs ls hS hl hq
    refine lv_iload_n (pc := 24) hx hb dJ6_bitCount_0f7a4_24 rfl (lv_at hl 0 rfl) ?_
    refine lv_iload_n (pc := 25) hx hb dJ6_bitCount_0f7a4_25 rfl (lv_at hl 0 rfl) ?_
    refine lv_iconst (pc := 26) (v := 4) hx hb dJ6_bitCount_0f7a4_26 (by decide) ?_
    refine lv_iushr (pc := 27) (v := pv_ushr x0 4) hx hb dJ6_bitCount_0f7a4_27 rfl ?_
    refine lv_iadd (pc := 28) hx hb dJ6_bitCount_0f7a4_28 ?_
    refine lv_ldcw (pc := 29) hx hb hown lc_267 dJ6_bitCount_0f7a4_29 ?_
    refine lv_iand (pc := 32) hx hb dJ6_bitCount_0f7a4_32 ?_
    refine lv_istore_n (pc := 33) (lv' := [(0, .int ((x0 + (pv_ushr x0 4)) &&& 252645135))]) hx hb dJ6_bitCount_0f7a4_33 rfl hl (Nat.le_of_ble_eq_true rfl) rfl (fun ls hl => ?_)
    exact B_34 ((x0 + (pv_ushr x0 4)) &&& 252645135) locs ls hS (lv_sub hl [0] rfl) hq
  have B_10 : ∀ (x0 : Int32) (locs : List Loc) (ls : Array Slot), va_S A s.heap s.heap locs → lv_has ls 1 [(0, .int x0)] → m_J6_bitCount_0f7a4_10 x0 = F → W p l e r_J6_bitCount_0f7a4 s m args below meth c s.heap locs 0 0 (MQ below (pv_Ro (some (.int F))) args s 0 0 A) (F0 m 10 ls []) := by
    intro x0 locs ls hS hl hq
    refine lv_iload_n (pc := 10) hx hb dJ6_bitCount_0f7a4_10 rfl (lv_at hl 0 rfl) ?_
    refine lv_ldcw (pc := 11) hx hb hown lc_266 dJ6_bitCount_0f7a4_11 ?_
    refine lv_iand (pc := 14) hx hb dJ6_bitCount_0f7a4_14 ?_
    refine lv_iload_n (pc := 15) hx hb dJ6_bitCount_0f7a4_15 rfl (lv_at hl 0 rfl) ?_
    refine lv_iconst (pc := 16) (v := 2) hx hb dJ6_bitCount_0f7a4_16 (by decide) ?_
    refine lv_iushr (pc := 17) (v := pv_ushr x0 2) hx hb dJ6_bitCount_0f7a4_17 rfl ?_
    refine lv_ldcw (pc := 18) hx hb hown lc_266 dJ6_bitCount_0f7a4_18 ?_
    refine lv_iand (pc := 21) hx hb dJ6_bitCount_0f7a4_21 ?_
    refine lv_iadd (pc := 22) hx hb dJ6_bitCount_0f7a4_22 ?_
    refine lv_istore_n (pc := 23) (lv' := [(0, .int ((x0 &&& 858993459) + ((pv_ushr x0 2) &&& 858993459)))]) hx hb dJ6_bitCount_0f7a4_23 rfl hl (Nat.le_of_ble_eq_true rfl) rfl (fun ls hl => ?_)
    exact B_24 ((x0 &&& 858993459) + ((pv_ushr x0 2) &&& 858993459)) locs ls hS (lv_sub hl [0] rfl) hq
  suffices M0 : ∀ (locs : List Loc), va_S A s.heap s.heap locs → W p l e r_J6_bitCount_0f7a4 s m args below meth c s.heap locs 0 0 (MQ below (pv_Ro (some (.int F))) args s 0 0 A) (F0 m 0 ls []) from M0 [] hS
  intro locs hS
  refine lv_iload_n (pc := 0) hx hb dJ6_bitCount_0f7a4_0 rfl (lv_at hl 0 rfl) ?_
  refine lv_iload_n (pc := 1) hx hb dJ6_bitCount_0f7a4_1 rfl (lv_at hl 0 rfl) ?_
  refine lv_iconst (pc := 2) (v := 1) hx hb dJ6_bitCount_0f7a4_2 (by decide) ?_
  refine lv_iushr (pc := 3) (v := pv_ushr x0 1) hx hb dJ6_bitCount_0f7a4_3 rfl ?_
  refine lv_ldcw (pc := 4) hx hb hown lc_265 dJ6_bitCount_0f7a4_4 ?_
  refine lv_iand (pc := 7) hx hb dJ6_bitCount_0f7a4_7 ?_
  refine lv_isub (pc := 8) hx hb dJ6_bitCount_0f7a4_8 ?_
  refine lv_istore_n (pc := 9) (lv' := [(0, .int (x0 - ((pv_ushr x0 1) &&& 1431655765)))]) hx hb dJ6_bitCount_0f7a4_9 rfl hl (Nat.le_of_ble_eq_true rfl) rfl (fun ls hl => ?_)
  exact B_10 (x0 - ((pv_ushr x0 1) &&& 1431655765)) locs ls hS (lv_sub hl [0] rfl) hq
def m_X0_dealt (x0 : Int32) (x1 : Int32) (x2 : Int32) : Int32 :=
  (pv_rem ((x0 * x1) + x2) 32)
abbrev r_X0_dealt : Room := { frames := 0, cells := 0, slots := 0, locals := 0 }
set_option maxHeartbeats 4000000 in
set_option maxRecDepth 100000 in
theorem c_X0_dealt (l : Launch) (E : pv_E)  (x0 : Int32) (x1 : Int32) (x2 : Int32) : pv_RO l E yX0_dealt wsX0_dealt r_X0_dealt (([] : va_W)) [.int x0, .int x1, .int x2] (some (.int (m_X0_dealt x0 x1 x2))) := by
  generalize hq : m_X0_dealt x0 x1 x2 = F
  intro sz
  refine pv_mk (by decide) rfl (Nat.le_of_ble_eq_true rfl) ?_
  intro p e s m args below meth c A hx hb hr hml hown hts hlk hAe hP hD0 hA hE hS ls hl
  have hown : s.vm.findClass RX0 = some m.cls := hown
  have hK := hE.1
  have hD := hD0
  have hl : lv_has ls 3 [(0, .int x0), (1, .int x1), (2, .int x2)] := hl
  suffices M0 : ∀ (locs : List Loc), va_S A s.heap s.heap locs → W p l e r_X0_dealt s m args below meth c s.heap locs 0 0 (MQ below (pv_Ro (some (.int F))) args s 0 0 A) (F0 m 0 ls []) from M0 [] hS
  intro locs hS
  refine lv_iload_n (pc := 0) hx hb dX0_dealt_0 rfl (lv_at hl 0 rfl) ?_
  refine lv_iload_n (pc := 1) hx hb dX0_dealt_1 rfl (lv_at hl 1 rfl) ?_
  refine lv_imul (pc := 2) hx hb dX0_dealt_2 ?_
  refine lv_iload_n (pc := 3) hx hb dX0_dealt_3 rfl (lv_at hl 2 rfl) ?_
  refine lv_iadd (pc := 4) hx hb dX0_dealt_4 ?_
  refine lv_bipush (pc := 5) (v := 32) hx hb dX0_dealt_5 (by decide) ?_
  refine pv_irem (pc := 7) hx hb dX0_dealt_7 (by decide) ?_
  exact pv_riRO hx hb hr hlk hS hq dX0_dealt_8
def m_X0_dealtHand_5 : Nat → Int32 → Int32 → Int32 → Int32 → Int32 → Option (Int32)
  | 0 => fun _ _ _ _ _ => none
  | n + 1 => fun x0 x1 x2 x3 x4 =>
    if 4 ≤ x4 then (some x3) else ((m_X0_dealtHand_5 n) x0 x1 x2 (x3 ||| ((1 : Int32) <<< ((m_X0_dealt x0 ((4 * x1) + x4) x2) &&& 31))) (x4 + 1))
def m_X0_dealtHand (x0 : Int32) (x1 : Int32) (x2 : Int32) : Option (Int32) :=
  m_X0_dealtHand_5 300 x0 x1 x2 0 0
abbrev r_X0_dealtHand : Room := { frames := 1, cells := 0, slots := 0, locals := 22 }
set_option maxHeartbeats 4000000 in
set_option maxRecDepth 100000 in
theorem c_X0_dealtHand (l : Launch) (E : pv_E)  (x0 : Int32) (x1 : Int32) (x2 : Int32) (F : Int32) (hq : m_X0_dealtHand x0 x1 x2 = some F) : pv_RO l E yX0_dealtHand wsX0_dealtHand r_X0_dealtHand (([] : va_W)) [.int x0, .int x1, .int x2] (some (.int F)) := by
  intro sz
  refine pv_mk (by decide) rfl (Nat.le_of_ble_eq_true rfl) ?_
  intro p e s m args below meth c A hx hb hr hml hown hts hlk hAe hP hD0 hA hE hS ls hl
  have hown : s.vm.findClass RX0 = some m.cls := hown
  have hK := hE.1
  have hD := hD0
  have hl : lv_has ls 5 [(0, .int x0), (1, .int x1), (2, .int x2)] := hl
  have L_5 : ∀ n : Nat, ∀ (x0 : Int32) (x1 : Int32) (x2 : Int32) (x3 : Int32) (x4 : Int32) (locs : List Loc) (ls : Array Slot), va_S A s.heap s.heap locs → lv_has ls 5 [(0, .int x0), (1, .int x1), (2, .int x2), (3, .int x3), (4, .int x4)] → m_X0_dealtHand_5 n x0 x1 x2 x3 x4 = some F → W p l e r_X0_dealtHand s m args below meth c s.heap locs 0 0 (MQ below (pv_Ro (some (.int F))) args s 0 0 A) (F0 m 5 ls []) := by
    intro n
    induction n with
    | zero =>
      intro x0 x1 x2 x3 x4 locs ls hS hl hq
      exact (pv_no hq).elim
    | succ n ih =>
      intro x0 x1 x2 x3 x4 locs ls hS hl hq
      refine lv_iload (pc := 5) hx hb dX0_dealtHand_5 (lv_at hl 4 rfl) ?_
      refine lv_iconst (pc := 7) (v := 4) hx hb dX0_dealtHand_7 (by decide) ?_
      refine lv_icmp_ge (pc := 8) (tgt := 33) hx hb dX0_dealtHand_8 (by decide) (fun c_1 => ?_) (fun c_1 => ?_)
      · have hq := pv_pos c_1 hq
        refine lv_iload_n (pc := 33) hx hb dX0_dealtHand_33 rfl (lv_at hl 3 rfl) ?_
        exact pv_riRO hx hb hr hlk hS (Option.some.inj hq) dX0_dealtHand_34
      · have hq := pv_neg c_1 hq
        refine lv_iload_n (pc := 11) hx hb dX0_dealtHand_11 rfl (lv_at hl 3 rfl) ?_
        refine lv_iconst (pc := 12) (v := 1) hx hb dX0_dealtHand_12 (by decide) ?_
        refine lv_iload_n (pc := 13) hx hb dX0_dealtHand_13 rfl (lv_at hl 0 rfl) ?_
        refine lv_iconst (pc := 14) (v := 4) hx hb dX0_dealtHand_14 (by decide) ?_
        refine lv_iload_n (pc := 15) hx hb dX0_dealtHand_15 rfl (lv_at hl 1 rfl) ?_
        refine lv_imul (pc := 16) hx hb dX0_dealtHand_16 ?_
        refine lv_iload (pc := 17) hx hb dX0_dealtHand_17 (lv_at hl 4 rfl) ?_
        refine lv_iadd (pc := 19) hx hb dX0_dealtHand_19 ?_
        refine lv_iload_n (pc := 20) hx hb dX0_dealtHand_20 rfl (lv_at hl 2 rfl) ?_
        refine pv_sRO (pc := 21) (rest := [.int 1, .int x3]) (st1 := [.int (m_X0_dealt x0 ((4 * x1) + x4) x2), .int 1, .int x3]) (ws := ([] : va_W)) [.int x0, .int ((4 * x1) + x4), .int x2] ⟨hx, hb, hml, hown, hts⟩ hE hA hS hP hD (c_X0_dealt l E x0 ((4 * x1) + x4) x2) (va_cwS 3 hts gX0_dealtHand_X0_dealt rfl rfl rfl (by decide +kernel) ⟨(Nat.le_of_ble_eq_true rfl), (Nat.le_of_ble_eq_true rfl)⟩) [] rfl rfl rfl hl.1 rfl rfl (Nat.le_of_ble_eq_true rfl) dX0_dealtHand_21 ⟨Nat.zero_le _, Nat.zero_le _⟩ (fun locs hS => ?_)
        refine lv_ishl (pc := 24) hx hb dX0_dealtHand_24 ?_
        refine lv_ior (pc := 25) hx hb dX0_dealtHand_25 ?_
        refine lv_istore_n (pc := 26) (lv' := [(3, .int (x3 ||| ((1 : Int32) <<< ((m_X0_dealt x0 ((4 * x1) + x4) x2) &&& 31)))), (0, .int x0), (1, .int x1), (2, .int x2), (4, .int x4)]) hx hb dX0_dealtHand_26 rfl hl (Nat.le_of_ble_eq_true rfl) rfl (fun ls hl => ?_)
        refine lv_iinc (pc := 27) (v := (x4 + 1)) (lv' := [(4, .int (x4 + 1)), (3, .int (x3 ||| ((1 : Int32) <<< ((m_X0_dealt x0 ((4 * x1) + x4) x2) &&& 31)))), (0, .int x0), (1, .int x1), (2, .int x2)]) hx hb dX0_dealtHand_27 hl (k := 4) rfl rfl (Nat.le_of_ble_eq_true rfl) rfl (fun ls hl => ?_)
        refine lv_goto (pc := 30) (tgt := 5) hx hb dX0_dealtHand_30 (by decide) ?_
        exact ih x0 x1 x2 (x3 ||| ((1 : Int32) <<< ((m_X0_dealt x0 ((4 * x1) + x4) x2) &&& 31))) (x4 + 1) locs ls hS (lv_sub hl [2, 3, 4, 1, 0] rfl) hq
  suffices M0 : ∀ (locs : List Loc), va_S A s.heap s.heap locs → W p l e r_X0_dealtHand s m args below meth c s.heap locs 0 0 (MQ below (pv_Ro (some (.int F))) args s 0 0 A) (F0 m 0 ls []) from M0 [] hS
  intro locs hS
  refine lv_iconst (pc := 0) (v := 0) hx hb dX0_dealtHand_0 (by decide) ?_
  refine lv_istore_n (pc := 1) (lv' := [(3, .int 0), (0, .int x0), (1, .int x1), (2, .int x2)]) hx hb dX0_dealtHand_1 rfl hl (Nat.le_of_ble_eq_true rfl) rfl (fun ls hl => ?_)
  refine lv_iconst (pc := 2) (v := 0) hx hb dX0_dealtHand_2 (by decide) ?_
  refine lv_istore (pc := 3) (lv' := [(4, .int 0), (3, .int 0), (0, .int x0), (1, .int x1), (2, .int x2)]) hx hb dX0_dealtHand_3 hl (Nat.le_of_ble_eq_true rfl) rfl (fun ls hl => ?_)
  exact L_5 300 x0 x1 x2 0 0 locs ls hS (lv_sub hl [2, 3, 4, 1, 0] rfl) hq
def m_X0_suit (x0 : Int32) : Int32 :=
  (x0 / 8)
abbrev r_X0_suit : Room := { frames := 0, cells := 0, slots := 0, locals := 0 }
set_option maxHeartbeats 4000000 in
set_option maxRecDepth 100000 in
theorem c_X0_suit (l : Launch) (E : pv_E)  (x0 : Int32) : pv_RO l E yX0_suit wsX0_suit r_X0_suit (([] : va_W)) [.int x0] (some (.int (m_X0_suit x0))) := by
  generalize hq : m_X0_suit x0 = F
  intro sz
  refine pv_mk (by decide) rfl (Nat.le_of_ble_eq_true rfl) ?_
  intro p e s m args below meth c A hx hb hr hml hown hts hlk hAe hP hD0 hA hE hS ls hl
  have hown : s.vm.findClass RX0 = some m.cls := hown
  have hK := hE.1
  have hD := hD0
  have hl : lv_has ls 1 [(0, .int x0)] := hl
  suffices M0 : ∀ (locs : List Loc), va_S A s.heap s.heap locs → W p l e r_X0_suit s m args below meth c s.heap locs 0 0 (MQ below (pv_Ro (some (.int F))) args s 0 0 A) (F0 m 0 ls []) from M0 [] hS
  intro locs hS
  refine lv_iload_n (pc := 0) hx hb dX0_suit_0 rfl (lv_at hl 0 rfl) ?_
  refine lv_bipush (pc := 1) (v := 8) hx hb dX0_suit_1 (by decide) ?_
  refine lv_idiv (pc := 3) hx hb dX0_suit_3 (by decide) ?_
  exact pv_riRO hx hb hr hlk hS hq dX0_suit_4
def m_X0_suitSet (x0 : Int32) : Int32 :=
  ((255 : Int32) <<< ((8 * x0) &&& 31))
abbrev r_X0_suitSet : Room := { frames := 0, cells := 0, slots := 0, locals := 0 }
set_option maxHeartbeats 4000000 in
set_option maxRecDepth 100000 in
theorem c_X0_suitSet (l : Launch) (E : pv_E)  (x0 : Int32) : pv_RO l E yX0_suitSet wsX0_suitSet r_X0_suitSet (([] : va_W)) [.int x0] (some (.int (m_X0_suitSet x0))) := by
  generalize hq : m_X0_suitSet x0 = F
  intro sz
  refine pv_mk (by decide) rfl (Nat.le_of_ble_eq_true rfl) ?_
  intro p e s m args below meth c A hx hb hr hml hown hts hlk hAe hP hD0 hA hE hS ls hl
  have hown : s.vm.findClass RX0 = some m.cls := hown
  have hK := hE.1
  have hD := hD0
  have hl : lv_has ls 1 [(0, .int x0)] := hl
  suffices M0 : ∀ (locs : List Loc), va_S A s.heap s.heap locs → W p l e r_X0_suitSet s m args below meth c s.heap locs 0 0 (MQ below (pv_Ro (some (.int F))) args s 0 0 A) (F0 m 0 ls []) from M0 [] hS
  intro locs hS
  refine lv_sipush (pc := 0) (v := 255) hx hb dX0_suitSet_0 (by decide) ?_
  refine lv_bipush (pc := 3) (v := 8) hx hb dX0_suitSet_3 (by decide) ?_
  refine lv_iload_n (pc := 5) hx hb dX0_suitSet_5 rfl (lv_at hl 0 rfl) ?_
  refine lv_imul (pc := 6) hx hb dX0_suitSet_6 ?_
  refine lv_ishl (pc := 7) hx hb dX0_suitSet_7 ?_
  exact pv_riRO hx hb hr hlk hS hq dX0_suitSet_8
def m_X0_beating (x0 : Int32) (x1 : Int32) (x2 : Int32) : Int32 :=
  if (m_X0_suit x1) = x2 then ((x0 &&& ((m_X0_suitSet (m_X0_suit x1)) &&& ((((-1) : Int32) <<< (x1 &&& 31)) <<< (1 &&& 31))))) else ((x0 &&& (((m_X0_suitSet (m_X0_suit x1)) &&& ((((-1) : Int32) <<< (x1 &&& 31)) <<< (1 &&& 31))) ||| (m_X0_suitSet x2))))
abbrev r_X0_beating : Room := { frames := 1, cells := 0, slots := 0, locals := 20 }
set_option maxHeartbeats 4000000 in
set_option maxRecDepth 100000 in
theorem c_X0_beating (l : Launch) (E : pv_E)  (x0 : Int32) (x1 : Int32) (x2 : Int32) : pv_RO l E yX0_beating wsX0_beating r_X0_beating (([] : va_W)) [.int x0, .int x1, .int x2] (some (.int (m_X0_beating x0 x1 x2))) := by
  generalize hq : m_X0_beating x0 x1 x2 = F
  intro sz
  refine pv_mk (by decide) rfl (Nat.le_of_ble_eq_true rfl) ?_
  intro p e s m args below meth c A hx hb hr hml hown hts hlk hAe hP hD0 hA hE hS ls hl
  have hown : s.vm.findClass RX0 = some m.cls := hown
  have hK := hE.1
  have hD := hD0
  have hl : lv_has ls 5 [(0, .int x0), (1, .int x1), (2, .int x2)] := hl
  suffices M0 : ∀ (locs : List Loc), va_S A s.heap s.heap locs → W p l e r_X0_beating s m args below meth c s.heap locs 0 0 (MQ below (pv_Ro (some (.int F))) args s 0 0 A) (F0 m 0 ls []) from M0 [] hS
  intro locs hS
  refine lv_iconst (pc := 0) (v := (-1)) hx hb dX0_beating_0 (by decide) ?_
  refine lv_iload_n (pc := 1) hx hb dX0_beating_1 rfl (lv_at hl 1 rfl) ?_
  refine lv_ishl (pc := 2) hx hb dX0_beating_2 ?_
  refine lv_iconst (pc := 3) (v := 1) hx hb dX0_beating_3 (by decide) ?_
  refine lv_ishl (pc := 4) hx hb dX0_beating_4 ?_
  refine lv_istore_n (pc := 5) (lv' := [(3, .int ((((-1) : Int32) <<< (x1 &&& 31)) <<< (1 &&& 31))), (0, .int x0), (1, .int x1), (2, .int x2)]) hx hb dX0_beating_5 rfl hl (Nat.le_of_ble_eq_true rfl) rfl (fun ls hl => ?_)
  refine lv_iload_n (pc := 6) hx hb dX0_beating_6 rfl (lv_at hl 2 rfl) ?_
  refine pv_sRO (pc := 7) (rest := []) (st1 := [.int (m_X0_suit x1)]) (ws := ([] : va_W)) [.int x1] ⟨hx, hb, hml, hown, hts⟩ hE hA hS hP hD (c_X0_suit l E x1) (va_cwS 1 hts gX0_beating_X0_suit rfl rfl rfl (by decide +kernel) ⟨(Nat.le_of_ble_eq_true rfl), (Nat.le_of_ble_eq_true rfl)⟩) [] rfl rfl rfl hl.1 rfl rfl (Nat.le_of_ble_eq_true rfl) dX0_beating_7 ⟨Nat.zero_le _, Nat.zero_le _⟩ (fun locs hS => ?_)
  refine pv_sRO (pc := 10) (rest := []) (st1 := [.int (m_X0_suitSet (m_X0_suit x1))]) (ws := ([] : va_W)) [.int (m_X0_suit x1)] ⟨hx, hb, hml, hown, hts⟩ hE hA hS hP hD (c_X0_suitSet l E (m_X0_suit x1)) (va_cwS 1 hts gX0_beating_X0_suitSet rfl rfl rfl (by decide +kernel) ⟨(Nat.le_of_ble_eq_true rfl), (Nat.le_of_ble_eq_true rfl)⟩) [] rfl rfl rfl hl.1 rfl rfl (Nat.le_of_ble_eq_true rfl) dX0_beating_10 ⟨Nat.zero_le _, Nat.zero_le _⟩ (fun locs hS => ?_)
  refine lv_iload_n (pc := 13) hx hb dX0_beating_13 rfl (lv_at hl 0 rfl) ?_
  refine lv_iand (pc := 14) hx hb dX0_beating_14 ?_
  refine lv_istore (pc := 15) (lv' := [(4, .int ((m_X0_suitSet (m_X0_suit x1)) &&& ((((-1) : Int32) <<< (x1 &&& 31)) <<< (1 &&& 31)))), (3, .int ((((-1) : Int32) <<< (x1 &&& 31)) <<< (1 &&& 31))), (0, .int x0), (1, .int x1), (2, .int x2)]) hx hb dX0_beating_15 hl (Nat.le_of_ble_eq_true rfl) rfl (fun ls hl => ?_)
  refine lv_iload_n (pc := 17) hx hb dX0_beating_17 rfl (lv_at hl 3 rfl) ?_
  refine pv_sRO (pc := 18) (rest := []) (st1 := [.int (m_X0_suit x1)]) (ws := ([] : va_W)) [.int x1] ⟨hx, hb, hml, hown, hts⟩ hE hA hS hP hD (c_X0_suit l E x1) (va_cwS 1 hts gX0_beating_X0_suit rfl rfl rfl (by decide +kernel) ⟨(Nat.le_of_ble_eq_true rfl), (Nat.le_of_ble_eq_true rfl)⟩) [] rfl rfl rfl hl.1 rfl rfl (Nat.le_of_ble_eq_true rfl) dX0_beating_18 ⟨Nat.zero_le _, Nat.zero_le _⟩ (fun locs hS => ?_)
  refine lv_iload_n (pc := 21) hx hb dX0_beating_21 rfl (lv_at hl 4 rfl) ?_
  refine lv_icmp_eq (pc := 22) (tgt := 34) hx hb dX0_beating_22 (by decide) (fun c_1 => ?_) (fun c_1 => ?_)
  · have hq := pv_pos c_1 hq
    refine lv_iload_n (pc := 34) hx hb dX0_beating_34 rfl (lv_at hl 2 rfl) ?_
    refine lv_iload (pc := 35) hx hb dX0_beating_35 (lv_at hl 0 rfl) ?_
    refine lv_iand (pc := 37) hx hb dX0_beating_37 ?_
    exact pv_riRO hx hb hr hlk hS hq dX0_beating_38
  · have hq := pv_neg c_1 hq
    refine lv_iload (pc := 25) hx hb dX0_beating_25 (lv_at hl 0 rfl) ?_
    refine lv_iload_n (pc := 27) hx hb dX0_beating_27 rfl (lv_at hl 4 rfl) ?_
    refine pv_sRO (pc := 28) (rest := [.int ((m_X0_suitSet (m_X0_suit x1)) &&& ((((-1) : Int32) <<< (x1 &&& 31)) <<< (1 &&& 31)))]) (st1 := [.int (m_X0_suitSet x2), .int ((m_X0_suitSet (m_X0_suit x1)) &&& ((((-1) : Int32) <<< (x1 &&& 31)) <<< (1 &&& 31)))]) (ws := ([] : va_W)) [.int x2] ⟨hx, hb, hml, hown, hts⟩ hE hA hS hP hD (c_X0_suitSet l E x2) (va_cwS 1 hts gX0_beating_X0_suitSet rfl rfl rfl (by decide +kernel) ⟨(Nat.le_of_ble_eq_true rfl), (Nat.le_of_ble_eq_true rfl)⟩) [] rfl rfl rfl hl.1 rfl rfl (Nat.le_of_ble_eq_true rfl) dX0_beating_28 ⟨Nat.zero_le _, Nat.zero_le _⟩ (fun locs hS => ?_)
    refine lv_ior (pc := 31) hx hb dX0_beating_31 ?_
    refine lv_istore (pc := 32) (lv' := [(4, .int (((m_X0_suitSet (m_X0_suit x1)) &&& ((((-1) : Int32) <<< (x1 &&& 31)) <<< (1 &&& 31))) ||| (m_X0_suitSet x2))), (3, .int ((((-1) : Int32) <<< (x1 &&& 31)) <<< (1 &&& 31))), (0, .int x0), (1, .int x1), (2, .int x2)]) hx hb dX0_beating_32 hl (Nat.le_of_ble_eq_true rfl) rfl (fun ls hl => ?_)
    refine lv_iload_n (pc := 34) hx hb dX0_beating_34 rfl (lv_at hl 2 rfl) ?_
    refine lv_iload (pc := 35) hx hb dX0_beating_35 (lv_at hl 0 rfl) ?_
    refine lv_iand (pc := 37) hx hb dX0_beating_37 ?_
    exact pv_riRO hx hb hr hlk hS hq dX0_beating_38
def m_X0_lowest_2 : Nat → Int32 → Int32 → Option (Int32)
  | 0 => fun _ _ => none
  | n + 1 => fun x0 x1 =>
    if 8 ≤ x1 then (some (-1)) else (if (x0 &&& ((16843009 : Int32) <<< (x1 &&& 31))) = 0 then ((m_X0_lowest_2 n) x0 (x1 + 1)) else (some (m_J6_bitCount_0f7a4 (((x0 &&& ((16843009 : Int32) <<< (x1 &&& 31))) &&& (-(x0 &&& ((16843009 : Int32) <<< (x1 &&& 31))))) - 1))))
def m_X0_lowest (x0 : Int32) : Option (Int32) :=
  m_X0_lowest_2 300 x0 0
abbrev r_X0_lowest : Room := { frames := 1, cells := 0, slots := 0, locals := 20 }
set_option maxHeartbeats 4000000 in
set_option maxRecDepth 100000 in
theorem c_X0_lowest (l : Launch) (E : pv_E)  (x0 : Int32) (F : Int32) (hq : m_X0_lowest x0 = some F) : pv_RO l E yX0_lowest wsX0_lowest r_X0_lowest (([] : va_W)) [.int x0] (some (.int F)) := by
  intro sz
  refine pv_mk (by decide) rfl (Nat.le_of_ble_eq_true rfl) ?_
  intro p e s m args below meth c A hx hb hr hml hown hts hlk hAe hP hD0 hA hE hS ls hl
  have hown : s.vm.findClass RX0 = some m.cls := hown
  have hK := hE.1
  have hD := hD0
  have lc_22 : (Cond.constant RX0 22 (16843009)).before args s = true := hts _ (by decide +kernel)
  have hl : lv_has ls 3 [(0, .int x0)] := hl
  have L_2 : ∀ n : Nat, ∀ (x0 : Int32) (x1 : Int32) (locs : List Loc) (ls : Array Slot), va_S A s.heap s.heap locs → lv_has ls 3 [(0, .int x0), (1, .int x1)] → m_X0_lowest_2 n x0 x1 = some F → W p l e r_X0_lowest s m args below meth c s.heap locs 0 0 (MQ below (pv_Ro (some (.int F))) args s 0 0 A) (F0 m 2 ls []) := by
    intro n
    induction n with
    | zero =>
      intro x0 x1 locs ls hS hl hq
      exact (pv_no hq).elim
    | succ n ih =>
      intro x0 x1 locs ls hS hl hq
      refine lv_iload_n (pc := 2) hx hb dX0_lowest_2 rfl (lv_at hl 1 rfl) ?_
      refine lv_bipush (pc := 3) (v := 8) hx hb dX0_lowest_3 (by decide) ?_
      refine lv_icmp_ge (pc := 5) (tgt := 35) hx hb dX0_lowest_5 (by decide) (fun c_1 => ?_) (fun c_1 => ?_)
      · have hq := pv_pos c_1 hq
        refine lv_iconst (pc := 35) (v := (-1)) hx hb dX0_lowest_35 (by decide) ?_
        exact pv_riRO hx hb hr hlk hS (Option.some.inj hq) dX0_lowest_36
      · have hq := pv_neg c_1 hq
        refine lv_iload_n (pc := 8) hx hb dX0_lowest_8 rfl (lv_at hl 0 rfl) ?_
        refine lv_ldc (pc := 9) hx hb hown lc_22 dX0_lowest_9 ?_
        refine lv_iload_n (pc := 11) hx hb dX0_lowest_11 rfl (lv_at hl 1 rfl) ?_
        refine lv_ishl (pc := 12) hx hb dX0_lowest_12 ?_
        refine lv_iand (pc := 13) hx hb dX0_lowest_13 ?_
        refine lv_istore_n (pc := 14) (lv' := [(2, .int (x0 &&& ((16843009 : Int32) <<< (x1 &&& 31)))), (0, .int x0), (1, .int x1)]) hx hb dX0_lowest_14 rfl hl (Nat.le_of_ble_eq_true rfl) rfl (fun ls hl => ?_)
        refine lv_iload_n (pc := 15) hx hb dX0_lowest_15 rfl (lv_at hl 0 rfl) ?_
        refine lv_if_eq (pc := 16) (tgt := 29) hx hb dX0_lowest_16 (by decide) (fun c_2 => ?_) (fun c_2 => ?_)
        · have hq := pv_pos c_2 hq
          refine lv_iinc (pc := 29) (v := (x1 + 1)) (lv' := [(1, .int (x1 + 1)), (2, .int (x0 &&& ((16843009 : Int32) <<< (x1 &&& 31)))), (0, .int x0)]) hx hb dX0_lowest_29 hl (k := 2) rfl rfl (Nat.le_of_ble_eq_true rfl) rfl (fun ls hl => ?_)
          refine lv_goto (pc := 32) (tgt := 2) hx hb dX0_lowest_32 (by decide) ?_
          exact ih x0 (x1 + 1) locs ls hS (lv_sub hl [2, 0] rfl) hq
        · have hq := pv_neg c_2 hq
          refine lv_iload_n (pc := 19) hx hb dX0_lowest_19 rfl (lv_at hl 0 rfl) ?_
          refine lv_iload_n (pc := 20) hx hb dX0_lowest_20 rfl (lv_at hl 0 rfl) ?_
          refine lv_ineg (pc := 21) hx hb dX0_lowest_21 ?_
          refine lv_iand (pc := 22) hx hb dX0_lowest_22 ?_
          refine lv_iconst (pc := 23) (v := 1) hx hb dX0_lowest_23 (by decide) ?_
          refine lv_isub (pc := 24) hx hb dX0_lowest_24 ?_
          refine pv_sRO (pc := 25) (rest := []) (st1 := [.int (m_J6_bitCount_0f7a4 (((x0 &&& ((16843009 : Int32) <<< (x1 &&& 31))) &&& (-(x0 &&& ((16843009 : Int32) <<< (x1 &&& 31))))) - 1))]) (ws := ([] : va_W)) [.int (((x0 &&& ((16843009 : Int32) <<< (x1 &&& 31))) &&& (-(x0 &&& ((16843009 : Int32) <<< (x1 &&& 31))))) - 1)] ⟨hx, hb, hml, hown, hts⟩ hE hA hS hP hD (c_J6_bitCount_0f7a4 l E (((x0 &&& ((16843009 : Int32) <<< (x1 &&& 31))) &&& (-(x0 &&& ((16843009 : Int32) <<< (x1 &&& 31))))) - 1)) (va_cwS 1 hts gX0_lowest_J6_bitCount_0f7a4 rfl rfl rfl (by decide +kernel) ⟨(Nat.le_of_ble_eq_true rfl), (Nat.le_of_ble_eq_true rfl)⟩) [] rfl rfl rfl hl.1 rfl rfl (Nat.le_of_ble_eq_true rfl) dX0_lowest_25 ⟨Nat.zero_le _, Nat.zero_le _⟩ (fun locs hS => ?_)
          exact pv_riRO hx hb hr hlk hS (Option.some.inj hq) dX0_lowest_28
  suffices M0 : ∀ (locs : List Loc), va_S A s.heap s.heap locs → W p l e r_X0_lowest s m args below meth c s.heap locs 0 0 (MQ below (pv_Ro (some (.int F))) args s 0 0 A) (F0 m 0 ls []) from M0 [] hS
  intro locs hS
  refine lv_iconst (pc := 0) (v := 0) hx hb dX0_lowest_0 (by decide) ?_
  refine lv_istore_n (pc := 1) (lv' := [(1, .int 0), (0, .int x0)]) hx hb dX0_lowest_1 rfl hl (Nat.le_of_ble_eq_true rfl) rfl (fun ls hl => ?_)
  exact L_2 300 x0 0 locs ls hS (lv_sub hl [1, 0] rfl) hq
def m_X0_highest_3 : Nat → Int32 → Int32 → Option (Int32)
  | 0 => fun _ _ => none
  | n + 1 => fun x0 x1 =>
    if x1 < 0 then (some (-1)) else (if (x0 &&& ((16843009 : Int32) <<< (x1 &&& 31))) = 0 then ((m_X0_highest_3 n) x0 (x1 + (-1))) else (some (m_J6_bitCount_0f7a4 (((x0 &&& ((16843009 : Int32) <<< (x1 &&& 31))) &&& (-(x0 &&& ((16843009 : Int32) <<< (x1 &&& 31))))) - 1))))
def m_X0_highest (x0 : Int32) : Option (Int32) :=
  m_X0_highest_3 300 x0 7
abbrev r_X0_highest : Room := { frames := 1, cells := 0, slots := 0, locals := 20 }
set_option maxHeartbeats 4000000 in
set_option maxRecDepth 100000 in
theorem c_X0_highest (l : Launch) (E : pv_E)  (x0 : Int32) (F : Int32) (hq : m_X0_highest x0 = some F) : pv_RO l E yX0_highest wsX0_highest r_X0_highest (([] : va_W)) [.int x0] (some (.int F)) := by
  intro sz
  refine pv_mk (by decide) rfl (Nat.le_of_ble_eq_true rfl) ?_
  intro p e s m args below meth c A hx hb hr hml hown hts hlk hAe hP hD0 hA hE hS ls hl
  have hown : s.vm.findClass RX0 = some m.cls := hown
  have hK := hE.1
  have hD := hD0
  have lc_22 : (Cond.constant RX0 22 (16843009)).before args s = true := hts _ (by decide +kernel)
  have hl : lv_has ls 3 [(0, .int x0)] := hl
  have L_3 : ∀ n : Nat, ∀ (x0 : Int32) (x1 : Int32) (locs : List Loc) (ls : Array Slot), va_S A s.heap s.heap locs → lv_has ls 3 [(0, .int x0), (1, .int x1)] → m_X0_highest_3 n x0 x1 = some F → W p l e r_X0_highest s m args below meth c s.heap locs 0 0 (MQ below (pv_Ro (some (.int F))) args s 0 0 A) (F0 m 3 ls []) := by
    intro n
    induction n with
    | zero =>
      intro x0 x1 locs ls hS hl hq
      exact (pv_no hq).elim
    | succ n ih =>
      intro x0 x1 locs ls hS hl hq
      refine lv_iload_n (pc := 3) hx hb dX0_highest_3 rfl (lv_at hl 1 rfl) ?_
      refine lv_if_lt (pc := 4) (tgt := 34) hx hb dX0_highest_4 (by decide) (fun c_1 => ?_) (fun c_1 => ?_)
      · have hq := pv_pos c_1 hq
        refine lv_iconst (pc := 34) (v := (-1)) hx hb dX0_highest_34 (by decide) ?_
        exact pv_riRO hx hb hr hlk hS (Option.some.inj hq) dX0_highest_35
      · have hq := pv_neg c_1 hq
        refine lv_iload_n (pc := 7) hx hb dX0_highest_7 rfl (lv_at hl 0 rfl) ?_
        refine lv_ldc (pc := 8) hx hb hown lc_22 dX0_highest_8 ?_
        refine lv_iload_n (pc := 10) hx hb dX0_highest_10 rfl (lv_at hl 1 rfl) ?_
        refine lv_ishl (pc := 11) hx hb dX0_highest_11 ?_
        refine lv_iand (pc := 12) hx hb dX0_highest_12 ?_
        refine lv_istore_n (pc := 13) (lv' := [(2, .int (x0 &&& ((16843009 : Int32) <<< (x1 &&& 31)))), (0, .int x0), (1, .int x1)]) hx hb dX0_highest_13 rfl hl (Nat.le_of_ble_eq_true rfl) rfl (fun ls hl => ?_)
        refine lv_iload_n (pc := 14) hx hb dX0_highest_14 rfl (lv_at hl 0 rfl) ?_
        refine lv_if_eq (pc := 15) (tgt := 28) hx hb dX0_highest_15 (by decide) (fun c_2 => ?_) (fun c_2 => ?_)
        · have hq := pv_pos c_2 hq
          refine lv_iinc (pc := 28) (v := (x1 + (-1))) (lv' := [(1, .int (x1 + (-1))), (2, .int (x0 &&& ((16843009 : Int32) <<< (x1 &&& 31)))), (0, .int x0)]) hx hb dX0_highest_28 hl (k := 2) rfl rfl (Nat.le_of_ble_eq_true rfl) rfl (fun ls hl => ?_)
          refine lv_goto (pc := 31) (tgt := 3) hx hb dX0_highest_31 (by decide) ?_
          exact ih x0 (x1 + (-1)) locs ls hS (lv_sub hl [2, 0] rfl) hq
        · have hq := pv_neg c_2 hq
          refine lv_iload_n (pc := 18) hx hb dX0_highest_18 rfl (lv_at hl 0 rfl) ?_
          refine lv_iload_n (pc := 19) hx hb dX0_highest_19 rfl (lv_at hl 0 rfl) ?_
          refine lv_ineg (pc := 20) hx hb dX0_highest_20 ?_
          refine lv_iand (pc := 21) hx hb dX0_highest_21 ?_
          refine lv_iconst (pc := 22) (v := 1) hx hb dX0_highest_22 (by decide) ?_
          refine lv_isub (pc := 23) hx hb dX0_highest_23 ?_
          refine pv_sRO (pc := 24) (rest := []) (st1 := [.int (m_J6_bitCount_0f7a4 (((x0 &&& ((16843009 : Int32) <<< (x1 &&& 31))) &&& (-(x0 &&& ((16843009 : Int32) <<< (x1 &&& 31))))) - 1))]) (ws := ([] : va_W)) [.int (((x0 &&& ((16843009 : Int32) <<< (x1 &&& 31))) &&& (-(x0 &&& ((16843009 : Int32) <<< (x1 &&& 31))))) - 1)] ⟨hx, hb, hml, hown, hts⟩ hE hA hS hP hD (c_J6_bitCount_0f7a4 l E (((x0 &&& ((16843009 : Int32) <<< (x1 &&& 31))) &&& (-(x0 &&& ((16843009 : Int32) <<< (x1 &&& 31))))) - 1)) (va_cwS 1 hts gX0_highest_J6_bitCount_0f7a4 rfl rfl rfl (by decide +kernel) ⟨(Nat.le_of_ble_eq_true rfl), (Nat.le_of_ble_eq_true rfl)⟩) [] rfl rfl rfl hl.1 rfl rfl (Nat.le_of_ble_eq_true rfl) dX0_highest_24 ⟨Nat.zero_le _, Nat.zero_le _⟩ (fun locs hS => ?_)
          exact pv_riRO hx hb hr hlk hS (Option.some.inj hq) dX0_highest_27
  suffices M0 : ∀ (locs : List Loc), va_S A s.heap s.heap locs → W p l e r_X0_highest s m args below meth c s.heap locs 0 0 (MQ below (pv_Ro (some (.int F))) args s 0 0 A) (F0 m 0 ls []) from M0 [] hS
  intro locs hS
  refine lv_bipush (pc := 0) (v := 7) hx hb dX0_highest_0 (by decide) ?_
  refine lv_istore_n (pc := 2) (lv' := [(1, .int 7), (0, .int x0)]) hx hb dX0_highest_2 rfl hl (Nat.le_of_ble_eq_true rfl) rfl (fun ls hl => ?_)
  exact L_3 300 x0 7 locs ls hS (lv_sub hl [1, 0] rfl) hq
def m_X6_isKind (x0 : Int32) : Int32 :=
  if x0 < 0 then 0 else (if 6 ≤ x0 then 0 else 1)
abbrev r_X6_isKind : Room := { frames := 0, cells := 0, slots := 0, locals := 0 }
set_option maxHeartbeats 4000000 in
set_option maxRecDepth 100000 in
theorem c_X6_isKind (l : Launch) (E : pv_E)  (x0 : Int32) : pv_RO l E yX6_isKind wsX6_isKind r_X6_isKind (([] : va_W)) [.int x0] (some (.int (m_X6_isKind x0))) := by
  generalize hq : m_X6_isKind x0 = F
  intro sz
  refine pv_mk (by decide) rfl (Nat.le_of_ble_eq_true rfl) ?_
  intro p e s m args below meth c A hx hb hr hml hown hts hlk hAe hP hD0 hA hE hS ls hl
  have hown : s.vm.findClass RX6 = some m.cls := hown
  have hK := hE.1
  have hD := hD0
  have hl : lv_has ls 1 [(0, .int x0)] := hl
  suffices M0 : ∀ (locs : List Loc), va_S A s.heap s.heap locs → W p l e r_X6_isKind s m args below meth c s.heap locs 0 0 (MQ below (pv_Ro (some (.int F))) args s 0 0 A) (F0 m 0 ls []) from M0 [] hS
  intro locs hS
  refine lv_iload_n (pc := 0) hx hb dX6_isKind_0 rfl (lv_at hl 0 rfl) ?_
  refine lv_if_lt (pc := 1) (tgt := 14) hx hb dX6_isKind_1 (by decide) (fun c_1 => ?_) (fun c_1 => ?_)
  · have hq := pv_pos c_1 hq
    refine lv_iconst (pc := 14) (v := 0) hx hb dX6_isKind_14 (by decide) ?_
    exact pv_rzRO hx hb hr hlk hS hq rfl dX6_isKind_15
  · have hq := pv_neg c_1 hq
    refine lv_iload_n (pc := 4) hx hb dX6_isKind_4 rfl (lv_at hl 0 rfl) ?_
    refine lv_bipush (pc := 5) (v := 6) hx hb dX6_isKind_5 (by decide) ?_
    refine lv_icmp_ge (pc := 7) (tgt := 14) hx hb dX6_isKind_7 (by decide) (fun c_2 => ?_) (fun c_2 => ?_)
    · have hq := pv_pos c_2 hq
      refine lv_iconst (pc := 14) (v := 0) hx hb dX6_isKind_14 (by decide) ?_
      exact pv_rzRO hx hb hr hlk hS hq rfl dX6_isKind_15
    · have hq := pv_neg c_2 hq
      refine lv_iconst (pc := 10) (v := 1) hx hb dX6_isKind_10 (by decide) ?_
      refine lv_goto (pc := 11) (tgt := 15) hx hb dX6_isKind_11 (by decide) ?_
      exact pv_rzRO hx hb hr hlk hS hq rfl dX6_isKind_15
def m_X2_lead_58 (y0 : Int32) : Option (Int32) :=
  Option.bind (m_X0_highest y0) fun u_5 => (some u_5)
def m_X2_lead (x0 : Int32) (x1 : Int32) (x2 : Int32) : Option (Int32) :=
  if x0 = 1 then (Option.bind (m_X0_lowest x1) fun u_2 => (some u_2)) else if x0 = 2 then (if (x1 &&& (m_X0_suitSet x2)) = 0 then (m_X2_lead_58 x1) else (m_X2_lead_58 (x1 &&& (m_X0_suitSet x2)))) else if x0 = 3 then (Option.bind (m_X0_lowest x1) fun u_7 => (some u_7)) else if x0 = 4 then (if 2 < (m_J6_bitCount_0f7a4 x1) then (Option.bind (m_X0_lowest x1) fun u_10 => (some u_10)) else (Option.bind (m_X0_highest x1) fun u_11 => (some u_11))) else if x0 = 5 then (if (x1 &&& (m_X0_suitSet x2)) = 0 then (m_X2_lead_58 x1) else (m_X2_lead_58 (x1 &&& (m_X0_suitSet x2)))) else (Option.bind (m_X0_highest x1) fun u_14 => (some u_14))
abbrev r_X2_lead : Room := { frames := 2, cells := 0, slots := 0, locals := 42 }
set_option maxHeartbeats 4000000 in
set_option maxRecDepth 100000 in
theorem c_X2_lead (l : Launch) (E : pv_E)  (x0 : Int32) (x1 : Int32) (x2 : Int32) (F : Int32) (hq : m_X2_lead x0 x1 x2 = some F) : pv_RO l E yX2_lead wsX2_lead r_X2_lead (([] : va_W)) [.int x0, .int x1, .int x2] (some (.int F)) := by
  intro sz
  refine pv_mk (by decide) rfl (Nat.le_of_ble_eq_true rfl) ?_
  intro p e s m args below meth c A hx hb hr hml hown hts hlk hAe hP hD0 hA hE hS ls hl
  have hown : s.vm.findClass RX2 = some m.cls := hown
  have hK := hE.1
  have hD := hD0
  have hl : lv_has ls 4 [(0, .int x0), (1, .int x1), (2, .int x2)] := hl
  have B_58 : ∀ (y0 : Int32) (locs : List Loc) (ls : Array Slot), va_S A s.heap s.heap locs → lv_has ls 4 [] → m_X2_lead_58 y0 = some F → W p l e r_X2_lead s m args below meth c s.heap locs 0 0 (MQ below (pv_Ro (some (.int F))) args s 0 0 A) (F0 m 58 ls [.int y0]) := by
    intro y0 locs ls hS hl hq
    obtain ⟨u_5, hu_5, hq⟩ := pv_bind hq
    refine pv_sRO (pc := 58) (rest := []) (st1 := [.int u_5]) (ws := ([] : va_W)) [.int y0] ⟨hx, hb, hml, hown, hts⟩ hE hA hS hP hD (c_X0_highest l E y0 u_5 hu_5) (va_cwS 1 hts gX2_lead_X0_highest rfl rfl rfl (by decide +kernel) ⟨(Nat.le_of_ble_eq_true rfl), (Nat.le_of_ble_eq_true rfl)⟩) [] rfl rfl rfl hl.1 rfl rfl (Nat.le_of_ble_eq_true rfl) dX2_lead_58 ⟨Nat.zero_le _, Nat.zero_le _⟩ (fun locs hS => ?_)
    exact pv_riRO hx hb hr hlk hS (Option.some.inj hq) dX2_lead_61
  suffices M0 : ∀ (locs : List Loc), va_S A s.heap s.heap locs → W p l e r_X2_lead s m args below meth c s.heap locs 0 0 (MQ below (pv_Ro (some (.int F))) args s 0 0 A) (F0 m 0 ls []) from M0 [] hS
  intro locs hS
  refine lv_iload_n (pc := 0) hx hb dX2_lead_0 rfl (lv_at hl 1 rfl) ?_
  refine lv_iload_n (pc := 1) hx hb dX2_lead_1 rfl (lv_at hl 2 rfl) ?_
  refine pv_sRO (pc := 2) (rest := [.int x1]) (st1 := [.int (m_X0_suitSet x2), .int x1]) (ws := ([] : va_W)) [.int x2] ⟨hx, hb, hml, hown, hts⟩ hE hA hS hP hD (c_X0_suitSet l E x2) (va_cwS 1 hts gX2_lead_X0_suitSet rfl rfl rfl (by decide +kernel) ⟨(Nat.le_of_ble_eq_true rfl), (Nat.le_of_ble_eq_true rfl)⟩) [] rfl rfl rfl hl.1 rfl rfl (Nat.le_of_ble_eq_true rfl) dX2_lead_2 ⟨Nat.zero_le _, Nat.zero_le _⟩ (fun locs hS => ?_)
  refine lv_iand (pc := 5) hx hb dX2_lead_5 ?_
  refine lv_istore_n (pc := 6) (lv' := [(3, .int (x1 &&& (m_X0_suitSet x2))), (0, .int x0), (1, .int x1), (2, .int x2)]) hx hb dX2_lead_6 rfl hl (Nat.le_of_ble_eq_true rfl) rfl (fun ls hl => ?_)
  refine lv_iload_n (pc := 7) hx hb dX2_lead_7 rfl (lv_at hl 1 rfl) ?_
  by_cases c_1 : x0 = 1
  · have hq := pv_pos c_1 hq
    refine lv_tableIn (pc := 8) (tgt := 44) (off := 36) hx hb dX2_lead_8 (by rw [c_1]; decide) (by rw [c_1]; decide) (by rw [c_1]; rfl) (by decide) ?_
    refine lv_iload_n (pc := 44) hx hb dX2_lead_44 rfl (lv_at hl 2 rfl) ?_
    obtain ⟨u_2, hu_2, hq⟩ := pv_bind hq
    refine pv_sRO (pc := 45) (rest := []) (st1 := [.int u_2]) (ws := ([] : va_W)) [.int x1] ⟨hx, hb, hml, hown, hts⟩ hE hA hS hP hD (c_X0_lowest l E x1 u_2 hu_2) (va_cwS 1 hts gX2_lead_X0_lowest rfl rfl rfl (by decide +kernel) ⟨(Nat.le_of_ble_eq_true rfl), (Nat.le_of_ble_eq_true rfl)⟩) [] rfl rfl rfl hl.1 rfl rfl (Nat.le_of_ble_eq_true rfl) dX2_lead_45 ⟨Nat.zero_le _, Nat.zero_le _⟩ (fun locs hS => ?_)
    exact pv_riRO hx hb hr hlk hS (Option.some.inj hq) dX2_lead_48
  have hq := pv_neg c_1 hq
  by_cases c_3 : x0 = 2
  · have hq := pv_pos c_3 hq
    refine lv_tableIn (pc := 8) (tgt := 49) (off := 41) hx hb dX2_lead_8 (by rw [c_3]; decide) (by rw [c_3]; decide) (by rw [c_3]; rfl) (by decide) ?_
    refine lv_iload_n (pc := 49) hx hb dX2_lead_49 rfl (lv_at hl 0 rfl) ?_
    refine lv_if_eq (pc := 50) (tgt := 57) hx hb dX2_lead_50 (by decide) (fun c_4 => ?_) (fun c_4 => ?_)
    · have hq := pv_pos c_4 hq
      refine lv_iload_n (pc := 57) hx hb dX2_lead_57 rfl (lv_at hl 2 rfl) ?_
      exact B_58 x1 locs ls hS (lv_sub hl [] rfl) hq
    · have hq := pv_neg c_4 hq
      refine lv_iload_n (pc := 53) hx hb dX2_lead_53 rfl (lv_at hl 0 rfl) ?_
      refine lv_goto (pc := 54) (tgt := 58) hx hb dX2_lead_54 (by decide) ?_
      exact B_58 (x1 &&& (m_X0_suitSet x2)) locs ls hS (lv_sub hl [] rfl) hq
  have hq := pv_neg c_3 hq
  by_cases c_6 : x0 = 3
  · have hq := pv_pos c_6 hq
    refine lv_tableIn (pc := 8) (tgt := 44) (off := 36) hx hb dX2_lead_8 (by rw [c_6]; decide) (by rw [c_6]; decide) (by rw [c_6]; rfl) (by decide) ?_
    refine lv_iload_n (pc := 44) hx hb dX2_lead_44 rfl (lv_at hl 2 rfl) ?_
    obtain ⟨u_7, hu_7, hq⟩ := pv_bind hq
    refine pv_sRO (pc := 45) (rest := []) (st1 := [.int u_7]) (ws := ([] : va_W)) [.int x1] ⟨hx, hb, hml, hown, hts⟩ hE hA hS hP hD (c_X0_lowest l E x1 u_7 hu_7) (va_cwS 1 hts gX2_lead_X0_lowest rfl rfl rfl (by decide +kernel) ⟨(Nat.le_of_ble_eq_true rfl), (Nat.le_of_ble_eq_true rfl)⟩) [] rfl rfl rfl hl.1 rfl rfl (Nat.le_of_ble_eq_true rfl) dX2_lead_45 ⟨Nat.zero_le _, Nat.zero_le _⟩ (fun locs hS => ?_)
    exact pv_riRO hx hb hr hlk hS (Option.some.inj hq) dX2_lead_48
  have hq := pv_neg c_6 hq
  by_cases c_8 : x0 = 4
  · have hq := pv_pos c_8 hq
    refine lv_tableIn (pc := 8) (tgt := 62) (off := 54) hx hb dX2_lead_8 (by rw [c_8]; decide) (by rw [c_8]; decide) (by rw [c_8]; rfl) (by decide) ?_
    refine lv_iload_n (pc := 62) hx hb dX2_lead_62 rfl (lv_at hl 2 rfl) ?_
    refine pv_sRO (pc := 63) (rest := []) (st1 := [.int (m_J6_bitCount_0f7a4 x1)]) (ws := ([] : va_W)) [.int x1] ⟨hx, hb, hml, hown, hts⟩ hE hA hS hP hD (c_J6_bitCount_0f7a4 l E x1) (va_cwS 1 hts gX2_lead_J6_bitCount_0f7a4 rfl rfl rfl (by decide +kernel) ⟨(Nat.le_of_ble_eq_true rfl), (Nat.le_of_ble_eq_true rfl)⟩) [] rfl rfl rfl hl.1 rfl rfl (Nat.le_of_ble_eq_true rfl) dX2_lead_63 ⟨Nat.zero_le _, Nat.zero_le _⟩ (fun locs hS => ?_)
    refine lv_iconst (pc := 66) (v := 2) hx hb dX2_lead_66 (by decide) ?_
    refine lv_icmp_gt (pc := 67) (tgt := 77) hx hb dX2_lead_67 (by decide) (fun c_9 => ?_) (fun c_9 => ?_)
    · have hq := pv_pos c_9 hq
      refine lv_iload_n (pc := 77) hx hb dX2_lead_77 rfl (lv_at hl 2 rfl) ?_
      obtain ⟨u_10, hu_10, hq⟩ := pv_bind hq
      refine pv_sRO (pc := 78) (rest := []) (st1 := [.int u_10]) (ws := ([] : va_W)) [.int x1] ⟨hx, hb, hml, hown, hts⟩ hE hA hS hP hD (c_X0_lowest l E x1 u_10 hu_10) (va_cwS 1 hts gX2_lead_X0_lowest rfl rfl rfl (by decide +kernel) ⟨(Nat.le_of_ble_eq_true rfl), (Nat.le_of_ble_eq_true rfl)⟩) [] rfl rfl rfl hl.1 rfl rfl (Nat.le_of_ble_eq_true rfl) dX2_lead_78 ⟨Nat.zero_le _, Nat.zero_le _⟩ (fun locs hS => ?_)
      exact pv_riRO hx hb hr hlk hS (Option.some.inj hq) dX2_lead_81
    · have hq := pv_neg c_9 hq
      refine lv_iload_n (pc := 70) hx hb dX2_lead_70 rfl (lv_at hl 2 rfl) ?_
      obtain ⟨u_11, hu_11, hq⟩ := pv_bind hq
      refine pv_sRO (pc := 71) (rest := []) (st1 := [.int u_11]) (ws := ([] : va_W)) [.int x1] ⟨hx, hb, hml, hown, hts⟩ hE hA hS hP hD (c_X0_highest l E x1 u_11 hu_11) (va_cwS 1 hts gX2_lead_X0_highest rfl rfl rfl (by decide +kernel) ⟨(Nat.le_of_ble_eq_true rfl), (Nat.le_of_ble_eq_true rfl)⟩) [] rfl rfl rfl hl.1 rfl rfl (Nat.le_of_ble_eq_true rfl) dX2_lead_71 ⟨Nat.zero_le _, Nat.zero_le _⟩ (fun locs hS => ?_)
      refine lv_goto (pc := 74) (tgt := 81) hx hb dX2_lead_74 (by decide) ?_
      exact pv_riRO hx hb hr hlk hS (Option.some.inj hq) dX2_lead_81
  have hq := pv_neg c_8 hq
  by_cases c_12 : x0 = 5
  · have hq := pv_pos c_12 hq
    refine lv_tableIn (pc := 8) (tgt := 49) (off := 41) hx hb dX2_lead_8 (by rw [c_12]; decide) (by rw [c_12]; decide) (by rw [c_12]; rfl) (by decide) ?_
    refine lv_iload_n (pc := 49) hx hb dX2_lead_49 rfl (lv_at hl 0 rfl) ?_
    refine lv_if_eq (pc := 50) (tgt := 57) hx hb dX2_lead_50 (by decide) (fun c_13 => ?_) (fun c_13 => ?_)
    · have hq := pv_pos c_13 hq
      refine lv_iload_n (pc := 57) hx hb dX2_lead_57 rfl (lv_at hl 2 rfl) ?_
      exact B_58 x1 locs ls hS (lv_sub hl [] rfl) hq
    · have hq := pv_neg c_13 hq
      refine lv_iload_n (pc := 53) hx hb dX2_lead_53 rfl (lv_at hl 0 rfl) ?_
      refine lv_goto (pc := 54) (tgt := 58) hx hb dX2_lead_54 (by decide) ?_
      exact B_58 (x1 &&& (m_X0_suitSet x2)) locs ls hS (lv_sub hl [] rfl) hq
  have hq := pv_neg c_12 hq
  refine lv_tableOut (pc := 8) (tgt := 82) hx hb dX2_lead_8 (pv_swr (x := x0) 1 5 (fun k h1 h2 => (fun e7 => Or.elim e7 (fun e8 e9 => c_1 ((e9.trans (congrArg Int32.ofInt e8)).trans (by decide))) (fun e7 => Or.elim e7 (fun e8 e9 => c_3 ((e9.trans (congrArg Int32.ofInt e8)).trans (by decide))) (fun e7 => Or.elim e7 (fun e8 e9 => c_6 ((e9.trans (congrArg Int32.ofInt e8)).trans (by decide))) (fun e7 => Or.elim e7 (fun e8 e9 => c_8 ((e9.trans (congrArg Int32.ofInt e8)).trans (by decide))) (fun e8 e9 => c_12 ((e9.trans (congrArg Int32.ofInt e8)).trans (by decide))))))) (show k = 1 ∨ k = 2 ∨ k = 3 ∨ k = 4 ∨ k = 5 by omega))) (by decide) ?_
  refine lv_iload_n (pc := 82) hx hb dX2_lead_82 rfl (lv_at hl 2 rfl) ?_
  obtain ⟨u_14, hu_14, hq⟩ := pv_bind hq
  refine pv_sRO (pc := 83) (rest := []) (st1 := [.int u_14]) (ws := ([] : va_W)) [.int x1] ⟨hx, hb, hml, hown, hts⟩ hE hA hS hP hD (c_X0_highest l E x1 u_14 hu_14) (va_cwS 1 hts gX2_lead_X0_highest rfl rfl rfl (by decide +kernel) ⟨(Nat.le_of_ble_eq_true rfl), (Nat.le_of_ble_eq_true rfl)⟩) [] rfl rfl rfl hl.1 rfl rfl (Nat.le_of_ble_eq_true rfl) dX2_lead_83 ⟨Nat.zero_le _, Nat.zero_le _⟩ (fun locs hS => ?_)
  exact pv_riRO hx hb hr hlk hS (Option.some.inj hq) dX2_lead_86
def m_X2_isUnder_4 : Nat → Int32 → Int32 → Int32 → Option (Int32)
  | 0 => fun _ _ _ => none
  | n + 1 => fun x1 x2 x3 =>
    if 6 ≤ x3 then (some 0) else (if (m_X6_isKind x2) = 0 then (some 0) else (if x2 = x1 then (some 1) else (pv_gd x2 6 ((m_X2_isUnder_4 n) x1 (pv_und x2.toNatClampNeg) (x3 + 1)))))
def m_X2_isUnder (x0 : Int32) (x1 : Int32) : Option (Int32) :=
  m_X2_isUnder_4 300 x1 x0 0
abbrev r_X2_isUnder : Room := { frames := 1, cells := 0, slots := 0, locals := 20 }
set_option maxHeartbeats 4000000 in
set_option maxRecDepth 100000 in
theorem c_X2_isUnder (l : Launch) (E : pv_E)  (x0 : Int32) (x1 : Int32) (F : Int32) (hq : m_X2_isUnder x0 x1 = some F) : pv_RO l E yX2_isUnder wsX2_isUnder r_X2_isUnder (([] : va_W)) [.int x0, .int x1] (some (.int F)) := by
  intro sz
  refine pv_mk (by decide) rfl (Nat.le_of_ble_eq_true rfl) ?_
  intro p e s m args below meth c A hx hb hr hml hown hts hlk hAe hP hD0 hA hE hS ls hl
  have hown : s.vm.findClass RX2 = some m.cls := hown
  have hK := hE.1
  have hD := hD0
  have fl_25 : (Cond.fieldLink RX2 25 "ProvinceCards$Kinds" "UNDER" "[I").before args s = true := hts _ (by decide +kernel)
  have ni_X6_isKind : (Cond.initialized RX6).before args s = true := hts _ (by decide +kernel)
  have ns_X6_isKind : (Cond.static yX6_isKind).before args s = true := hts _ (by decide +kernel)
  have hl : lv_has ls 4 [(0, .int x0), (1, .int x1)] := hl
  have L_4 : ∀ n : Nat, ∀ (x1 : Int32) (x2 : Int32) (x3 : Int32) (locs : List Loc) (ls : Array Slot), va_S A s.heap s.heap locs → lv_has ls 4 [(1, .int x1), (2, .int x2), (3, .int x3)] → m_X2_isUnder_4 n x1 x2 x3 = some F → W p l e r_X2_isUnder s m args below meth c s.heap locs 0 0 (MQ below (pv_Ro (some (.int F))) args s 0 0 A) (F0 m 4 ls []) := by
    intro n
    induction n with
    | zero =>
      intro x1 x2 x3 locs ls hS hl hq
      exact (pv_no hq).elim
    | succ n ih =>
      intro x1 x2 x3 locs ls hS hl hq
      refine lv_iload_n (pc := 4) hx hb dX2_isUnder_4 rfl (lv_at hl 2 rfl) ?_
      refine lv_bipush (pc := 5) (v := 6) hx hb dX2_isUnder_5 (by decide) ?_
      refine lv_icmp_ge (pc := 7) (tgt := 36) hx hb dX2_isUnder_7 (by decide) (fun c_1 => ?_) (fun c_1 => ?_)
      · have hq := pv_pos c_1 hq
        refine lv_iconst (pc := 36) (v := 0) hx hb dX2_isUnder_36 (by decide) ?_
        exact pv_rzRO hx hb hr hlk hS (Option.some.inj hq) rfl dX2_isUnder_37
      · have hq := pv_neg c_1 hq
        refine lv_iload_n (pc := 10) hx hb dX2_isUnder_10 rfl (lv_at hl 1 rfl) ?_
        refine pv_sROn (pc := 11) (rest := []) (st1 := [.int (m_X6_isKind x2)]) (ws := ([] : va_W)) [.int x2] ⟨hx, hb, hml, hown, hts⟩ hE hA hS hP hD (c_X6_isKind l E x2) ⟨va_cnB 1 hts gX2_isUnder_X6_isKind_n21 rfl rfl rfl (pv_nst0 hE) ni_X6_isKind (by decide +kernel) ⟨(Nat.le_of_ble_eq_true rfl), (Nat.le_of_ble_eq_true rfl)⟩, ns_X6_isKind⟩ [] rfl rfl rfl hl.1 rfl rfl (Nat.le_of_ble_eq_true rfl) dX2_isUnder_11 ⟨Nat.zero_le _, Nat.zero_le _⟩ (fun locs hS => ?_)
        refine lv_if_eq (pc := 14) (tgt := 36) hx hb dX2_isUnder_14 (by decide) (fun c_2 => ?_) (fun c_2 => ?_)
        · have hq := pv_pos c_2 hq
          refine lv_iconst (pc := 36) (v := 0) hx hb dX2_isUnder_36 (by decide) ?_
          exact pv_rzRO hx hb hr hlk hS (Option.some.inj hq) rfl dX2_isUnder_37
        · have hq := pv_neg c_2 hq
          refine lv_iload_n (pc := 17) hx hb dX2_isUnder_17 rfl (lv_at hl 1 rfl) ?_
          refine lv_iload_n (pc := 18) hx hb dX2_isUnder_18 rfl (lv_at hl 0 rfl) ?_
          refine lv_icmp_ne (pc := 19) (tgt := 24) hx hb dX2_isUnder_19 (by decide) (fun c_3 => ?_) (fun c_3 => ?_)
          · have hq := pv_neg c_3 hq
            refine va_gets (pc := 24) hx hb hE.2.1 hS hown fl_25 (fun _ h9 => h9) dX2_isUnder_24 ?_
            refine lv_iload_n (pc := 27) hx hb dX2_isUnder_27 rfl (lv_at hl 1 rfl) ?_
            obtain ⟨h_4, hq⟩ := pv_gd_some hq
            refine va_ti (pc := 28) hx hb hE.2.2.1 hS h_4 rfl dX2_isUnder_28 ?_
            refine lv_istore_n (pc := 29) (lv' := [(2, .int (pv_und x2.toNatClampNeg)), (1, .int x1), (3, .int x3)]) hx hb dX2_isUnder_29 rfl hl (Nat.le_of_ble_eq_true rfl) rfl (fun ls hl => ?_)
            refine lv_iinc (pc := 30) (v := (x3 + 1)) (lv' := [(3, .int (x3 + 1)), (2, .int (pv_und x2.toNatClampNeg)), (1, .int x1)]) hx hb dX2_isUnder_30 hl (k := 2) rfl rfl (Nat.le_of_ble_eq_true rfl) rfl (fun ls hl => ?_)
            refine lv_goto (pc := 33) (tgt := 4) hx hb dX2_isUnder_33 (by decide) ?_
            exact ih x1 (pv_und x2.toNatClampNeg) (x3 + 1) locs ls hS (lv_sub hl [2, 1, 0] rfl) hq
          · have hq := pv_pos c_3 hq
            refine lv_iconst (pc := 22) (v := 1) hx hb dX2_isUnder_22 (by decide) ?_
            exact pv_rzRO hx hb hr hlk hS (Option.some.inj hq) rfl dX2_isUnder_23
  suffices M0 : ∀ (locs : List Loc), va_S A s.heap s.heap locs → W p l e r_X2_isUnder s m args below meth c s.heap locs 0 0 (MQ below (pv_Ro (some (.int F))) args s 0 0 A) (F0 m 0 ls []) from M0 [] hS
  intro locs hS
  refine lv_iload_n (pc := 0) hx hb dX2_isUnder_0 rfl (lv_at hl 0 rfl) ?_
  refine lv_istore_n (pc := 1) (lv' := [(2, .int x0), (0, .int x0), (1, .int x1)]) hx hb dX2_isUnder_1 rfl hl (Nat.le_of_ble_eq_true rfl) rfl (fun ls hl => ?_)
  refine lv_iconst (pc := 2) (v := 0) hx hb dX2_isUnder_2 (by decide) ?_
  refine lv_istore_n (pc := 3) (lv' := [(3, .int 0), (2, .int x0), (0, .int x0), (1, .int x1)]) hx hb dX2_isUnder_3 rfl hl (Nat.le_of_ble_eq_true rfl) rfl (fun ls hl => ?_)
  exact L_4 300 x1 x0 0 locs ls hS (lv_sub hl [3, 1, 0] rfl) hq
def m_X2_mayPlay_30 (x1 : Int32) (x4 : Int32) (y0 : Int32) : Option (Int32) :=
  if y0 = 0 then (if x4 = 0 then (some x1) else (some x4)) else (some x1)
def m_X2_mayPlay_29 (x1 : Int32) (x4 : Int32) : Option (Int32) :=
  m_X2_mayPlay_30 x1 x4 0
def m_X2_mayPlay (x0 : Int32) (x1 : Int32) (x2 : Int32) (x3 : Int32) : Option (Int32) :=
  if (pv_rem x3 3) = 0 then (Option.bind (m_X2_isUnder x0 2) fun u_4 => (if u_4 = 0 then (m_X2_mayPlay_29 x1 (x1 &&& (m_X0_suitSet (m_X0_suit x2)))) else (m_X2_mayPlay_30 x1 (x1 &&& (m_X0_suitSet (m_X0_suit x2))) 1))) else (m_X2_mayPlay_29 x1 (x1 &&& (m_X0_suitSet (m_X0_suit x2))))
abbrev r_X2_mayPlay : Room := { frames := 2, cells := 0, slots := 0, locals := 43 }
set_option maxHeartbeats 4000000 in
set_option maxRecDepth 100000 in
theorem c_X2_mayPlay (l : Launch) (E : pv_E)  (x0 : Int32) (x1 : Int32) (x2 : Int32) (x3 : Int32) (F : Int32) (hq : m_X2_mayPlay x0 x1 x2 x3 = some F) : pv_RO l E yX2_mayPlay wsX2_mayPlay r_X2_mayPlay (([] : va_W)) [.int x0, .int x1, .int x2, .int x3] (some (.int F)) := by
  intro sz
  refine pv_mk (by decide) rfl (Nat.le_of_ble_eq_true rfl) ?_
  intro p e s m args below meth c A hx hb hr hml hown hts hlk hAe hP hD0 hA hE hS ls hl
  have hown : s.vm.findClass RX2 = some m.cls := hown
  have hK := hE.1
  have hD := hD0
  have hl : lv_has ls 6 [(0, .int x0), (1, .int x1), (2, .int x2), (3, .int x3)] := hl
  have B_30 : ∀ (x1 : Int32) (x4 : Int32) (y0 : Int32) (locs : List Loc) (ls : Array Slot), va_S A s.heap s.heap locs → lv_has ls 6 [(1, .int x1), (4, .int x4)] → m_X2_mayPlay_30 x1 x4 y0 = some F → W p l e r_X2_mayPlay s m args below meth c s.heap locs 0 0 (MQ below (pv_Ro (some (.int F))) args s 0 0 A) (F0 m 30 ls [.int y0]) := by
    intro x1 x4 y0 locs ls hS hl hq
    refine lv_istore (pc := 30) (lv' := [(5, .int y0), (1, .int x1), (4, .int x4)]) hx hb dX2_mayPlay_30 hl (Nat.le_of_ble_eq_true rfl) rfl (fun ls hl => ?_)
    refine lv_iload (pc := 32) hx hb dX2_mayPlay_32 (lv_at hl 0 rfl) ?_
    refine lv_if_ne (pc := 34) (tgt := 42) hx hb dX2_mayPlay_34 (by decide) (fun c_2 => ?_) (fun c_2 => ?_)
    · have hq := pv_neg c_2 hq
      refine lv_iload_n (pc := 42) hx hb dX2_mayPlay_42 rfl (lv_at hl 1 rfl) ?_
      refine lv_goto (pc := 43) (tgt := 48) hx hb dX2_mayPlay_43 (by decide) ?_
      exact pv_riRO hx hb hr hlk hS (Option.some.inj hq) dX2_mayPlay_48
    · have hq := pv_pos c_2 hq
      refine lv_iload (pc := 37) hx hb dX2_mayPlay_37 (lv_at hl 2 rfl) ?_
      refine lv_if_ne (pc := 39) (tgt := 46) hx hb dX2_mayPlay_39 (by decide) (fun c_3 => ?_) (fun c_3 => ?_)
      · have hq := pv_neg c_3 hq
        refine lv_iload (pc := 46) hx hb dX2_mayPlay_46 (lv_at hl 2 rfl) ?_
        exact pv_riRO hx hb hr hlk hS (Option.some.inj hq) dX2_mayPlay_48
      · have hq := pv_pos c_3 hq
        refine lv_iload_n (pc := 42) hx hb dX2_mayPlay_42 rfl (lv_at hl 1 rfl) ?_
        refine lv_goto (pc := 43) (tgt := 48) hx hb dX2_mayPlay_43 (by decide) ?_
        exact pv_riRO hx hb hr hlk hS (Option.some.inj hq) dX2_mayPlay_48
  have B_29 : ∀ (x1 : Int32) (x4 : Int32) (locs : List Loc) (ls : Array Slot), va_S A s.heap s.heap locs → lv_has ls 6 [(1, .int x1), (4, .int x4)] → m_X2_mayPlay_29 x1 x4 = some F → W p l e r_X2_mayPlay s m args below meth c s.heap locs 0 0 (MQ below (pv_Ro (some (.int F))) args s 0 0 A) (F0 m 29 ls []) := by
    intro x1 x4 locs ls hS hl hq
    refine lv_iconst (pc := 29) (v := 0) hx hb dX2_mayPlay_29 (by decide) ?_
    exact B_30 x1 x4 0 locs ls hS (lv_sub hl [0, 1] rfl) hq
  suffices M0 : ∀ (locs : List Loc), va_S A s.heap s.heap locs → W p l e r_X2_mayPlay s m args below meth c s.heap locs 0 0 (MQ below (pv_Ro (some (.int F))) args s 0 0 A) (F0 m 0 ls []) from M0 [] hS
  intro locs hS
  refine lv_iload_n (pc := 0) hx hb dX2_mayPlay_0 rfl (lv_at hl 1 rfl) ?_
  refine lv_iload_n (pc := 1) hx hb dX2_mayPlay_1 rfl (lv_at hl 2 rfl) ?_
  refine pv_sRO (pc := 2) (rest := [.int x1]) (st1 := [.int (m_X0_suit x2), .int x1]) (ws := ([] : va_W)) [.int x2] ⟨hx, hb, hml, hown, hts⟩ hE hA hS hP hD (c_X0_suit l E x2) (va_cwS 1 hts gX2_mayPlay_X0_suit rfl rfl rfl (by decide +kernel) ⟨(Nat.le_of_ble_eq_true rfl), (Nat.le_of_ble_eq_true rfl)⟩) [] rfl rfl rfl hl.1 rfl rfl (Nat.le_of_ble_eq_true rfl) dX2_mayPlay_2 ⟨Nat.zero_le _, Nat.zero_le _⟩ (fun locs hS => ?_)
  refine pv_sRO (pc := 5) (rest := [.int x1]) (st1 := [.int (m_X0_suitSet (m_X0_suit x2)), .int x1]) (ws := ([] : va_W)) [.int (m_X0_suit x2)] ⟨hx, hb, hml, hown, hts⟩ hE hA hS hP hD (c_X0_suitSet l E (m_X0_suit x2)) (va_cwS 1 hts gX2_mayPlay_X0_suitSet rfl rfl rfl (by decide +kernel) ⟨(Nat.le_of_ble_eq_true rfl), (Nat.le_of_ble_eq_true rfl)⟩) [] rfl rfl rfl hl.1 rfl rfl (Nat.le_of_ble_eq_true rfl) dX2_mayPlay_5 ⟨Nat.zero_le _, Nat.zero_le _⟩ (fun locs hS => ?_)
  refine lv_iand (pc := 8) hx hb dX2_mayPlay_8 ?_
  refine lv_istore (pc := 9) (lv' := [(4, .int (x1 &&& (m_X0_suitSet (m_X0_suit x2)))), (0, .int x0), (1, .int x1), (2, .int x2), (3, .int x3)]) hx hb dX2_mayPlay_9 hl (Nat.le_of_ble_eq_true rfl) rfl (fun ls hl => ?_)
  refine lv_iload_n (pc := 11) hx hb dX2_mayPlay_11 rfl (lv_at hl 4 rfl) ?_
  refine lv_iconst (pc := 12) (v := 3) hx hb dX2_mayPlay_12 (by decide) ?_
  refine pv_irem (pc := 13) hx hb dX2_mayPlay_13 (by decide) ?_
  refine lv_if_ne (pc := 14) (tgt := 29) hx hb dX2_mayPlay_14 (by decide) (fun c_1 => ?_) (fun c_1 => ?_)
  · have hq := pv_neg c_1 hq
    exact B_29 x1 (x1 &&& (m_X0_suitSet (m_X0_suit x2))) locs ls hS (lv_sub hl [2, 0] rfl) hq
  · have hq := pv_pos c_1 hq
    refine lv_iload_n (pc := 17) hx hb dX2_mayPlay_17 rfl (lv_at hl 1 rfl) ?_
    refine lv_iconst (pc := 18) (v := 2) hx hb dX2_mayPlay_18 (by decide) ?_
    obtain ⟨u_4, hu_4, hq⟩ := pv_bind hq
    refine pv_sRO (pc := 19) (rest := []) (st1 := [.int u_4]) (ws := ([] : va_W)) [.int x0, .int 2] ⟨hx, hb, hml, hown, hts⟩ hE hA hS hP hD (c_X2_isUnder l E x0 2 u_4 hu_4) (va_cwS 2 hts gX2_mayPlay_X2_isUnder rfl rfl rfl (by decide +kernel) ⟨(Nat.le_of_ble_eq_true rfl), (Nat.le_of_ble_eq_true rfl)⟩) [] rfl rfl rfl hl.1 rfl rfl (Nat.le_of_ble_eq_true rfl) dX2_mayPlay_19 ⟨Nat.zero_le _, Nat.zero_le _⟩ (fun locs hS => ?_)
    refine lv_if_eq (pc := 22) (tgt := 29) hx hb dX2_mayPlay_22 (by decide) (fun c_5 => ?_) (fun c_5 => ?_)
    · have hq := pv_pos c_5 hq
      exact B_29 x1 (x1 &&& (m_X0_suitSet (m_X0_suit x2))) locs ls hS (lv_sub hl [2, 0] rfl) hq
    · have hq := pv_neg c_5 hq
      refine lv_iconst (pc := 25) (v := 1) hx hb dX2_mayPlay_25 (by decide) ?_
      refine lv_goto (pc := 26) (tgt := 30) hx hb dX2_mayPlay_26 (by decide) ?_
      exact B_30 x1 (x1 &&& (m_X0_suitSet (m_X0_suit x2))) 1 locs ls hS (lv_sub hl [2, 0] rfl) hq
def m_X2_follow_98 (y0 : Int32) : Option (Int32) :=
  Option.bind (m_X0_lowest y0) fun u_12 => (some u_12)
def m_X2_follow_19 (x0 : Int32) (x1 : Int32) (x2 : Int32) (x3 : Int32) (x4 : Int32) (y0 : Int32) : Option (Int32) :=
  if x0 = 1 then (Option.bind (m_X0_lowest x1) fun u_3 => (some u_3)) else if x0 = 2 then (Option.bind (m_X0_lowest y0) fun u_5 => (some u_5)) else if x0 = 3 then (if x4 = x1 then (Option.bind (m_X0_lowest x1) fun u_9 => (some u_9)) else (Option.bind (m_X0_highest (x1 &&& (x4 ^^^ (-1)))) fun u_8 => (some u_8))) else if x0 = 4 then (if (m_X0_suit x2) = x3 then (m_X2_follow_98 y0) else (m_X2_follow_98 x1)) else if x0 = 5 then (if x4 = 0 then (Option.bind (m_X0_lowest x1) fun u_15 => (some u_15)) else (Option.bind (m_X0_highest x4) fun u_16 => (some u_16))) else (Option.bind (m_X0_lowest y0) fun u_17 => (some u_17))
def m_X2_follow (x0 : Int32) (x1 : Int32) (x2 : Int32) (x3 : Int32) : Option (Int32) :=
  if (m_X0_beating x1 x2 x3) = 0 then (m_X2_follow_19 x0 x1 x2 x3 (m_X0_beating x1 x2 x3) x1) else (m_X2_follow_19 x0 x1 x2 x3 (m_X0_beating x1 x2 x3) (m_X0_beating x1 x2 x3))
abbrev r_X2_follow : Room := { frames := 2, cells := 0, slots := 0, locals := 44 }
set_option maxHeartbeats 4000000 in
set_option maxRecDepth 100000 in
theorem c_X2_follow (l : Launch) (E : pv_E)  (x0 : Int32) (x1 : Int32) (x2 : Int32) (x3 : Int32) (F : Int32) (hq : m_X2_follow x0 x1 x2 x3 = some F) : pv_RO l E yX2_follow wsX2_follow r_X2_follow (([] : va_W)) [.int x0, .int x1, .int x2, .int x3] (some (.int F)) := by
  intro sz
  refine pv_mk (by decide) rfl (Nat.le_of_ble_eq_true rfl) ?_
  intro p e s m args below meth c A hx hb hr hml hown hts hlk hAe hP hD0 hA hE hS ls hl
  have hown : s.vm.findClass RX2 = some m.cls := hown
  have hK := hE.1
  have hD := hD0
  have hl : lv_has ls 6 [(0, .int x0), (1, .int x1), (2, .int x2), (3, .int x3)] := hl
  have B_98 : ∀ (y0 : Int32) (locs : List Loc) (ls : Array Slot), va_S A s.heap s.heap locs → lv_has ls 6 [] → m_X2_follow_98 y0 = some F → W p l e r_X2_follow s m args below meth c s.heap locs 0 0 (MQ below (pv_Ro (some (.int F))) args s 0 0 A) (F0 m 98 ls [.int y0]) := by
    intro y0 locs ls hS hl hq
    obtain ⟨u_12, hu_12, hq⟩ := pv_bind hq
    refine pv_sRO (pc := 98) (rest := []) (st1 := [.int u_12]) (ws := ([] : va_W)) [.int y0] ⟨hx, hb, hml, hown, hts⟩ hE hA hS hP hD (c_X0_lowest l E y0 u_12 hu_12) (va_cwS 1 hts gX2_follow_X0_lowest rfl rfl rfl (by decide +kernel) ⟨(Nat.le_of_ble_eq_true rfl), (Nat.le_of_ble_eq_true rfl)⟩) [] rfl rfl rfl hl.1 rfl rfl (Nat.le_of_ble_eq_true rfl) dX2_follow_98 ⟨Nat.zero_le _, Nat.zero_le _⟩ (fun locs hS => ?_)
    exact pv_riRO hx hb hr hlk hS (Option.some.inj hq) dX2_follow_101
  have B_19 : ∀ (x0 : Int32) (x1 : Int32) (x2 : Int32) (x3 : Int32) (x4 : Int32) (y0 : Int32) (locs : List Loc) (ls : Array Slot), va_S A s.heap s.heap locs → lv_has ls 6 [(0, .int x0), (1, .int x1), (2, .int x2), (3, .int x3), (4, .int x4)] → m_X2_follow_19 x0 x1 x2 x3 x4 y0 = some F → W p l e r_X2_follow s m args below meth c s.heap locs 0 0 (MQ below (pv_Ro (some (.int F))) args s 0 0 A) (F0 m 19 ls [.int y0]) := by
    intro x0 x1 x2 x3 x4 y0 locs ls hS hl hq
    refine lv_istore (pc := 19) (lv' := [(5, .int y0), (0, .int x0), (1, .int x1), (2, .int x2), (3, .int x3), (4, .int x4)]) hx hb dX2_follow_19 hl (Nat.le_of_ble_eq_true rfl) rfl (fun ls hl => ?_)
    refine lv_iload_n (pc := 21) hx hb dX2_follow_21 rfl (lv_at hl 1 rfl) ?_
    by_cases c_2 : x0 = 1
    · have hq := pv_pos c_2 hq
      refine lv_tableIn (pc := 22) (tgt := 56) (off := 34) hx hb dX2_follow_22 (by rw [c_2]; decide) (by rw [c_2]; decide) (by rw [c_2]; rfl) (by decide) ?_
      refine lv_iload_n (pc := 56) hx hb dX2_follow_56 rfl (lv_at hl 2 rfl) ?_
      obtain ⟨u_3, hu_3, hq⟩ := pv_bind hq
      refine pv_sRO (pc := 57) (rest := []) (st1 := [.int u_3]) (ws := ([] : va_W)) [.int x1] ⟨hx, hb, hml, hown, hts⟩ hE hA hS hP hD (c_X0_lowest l E x1 u_3 hu_3) (va_cwS 1 hts gX2_follow_X0_lowest rfl rfl rfl (by decide +kernel) ⟨(Nat.le_of_ble_eq_true rfl), (Nat.le_of_ble_eq_true rfl)⟩) [] rfl rfl rfl hl.1 rfl rfl (Nat.le_of_ble_eq_true rfl) dX2_follow_57 ⟨Nat.zero_le _, Nat.zero_le _⟩ (fun locs hS => ?_)
      exact pv_riRO hx hb hr hlk hS (Option.some.inj hq) dX2_follow_60
    have hq := pv_neg c_2 hq
    by_cases c_4 : x0 = 2
    · have hq := pv_pos c_4 hq
      refine lv_tableIn (pc := 22) (tgt := 120) (off := 98) hx hb dX2_follow_22 (by rw [c_4]; decide) (by rw [c_4]; decide) (by rw [c_4]; rfl) (by decide) ?_
      refine lv_iload (pc := 120) hx hb dX2_follow_120 (lv_at hl 0 rfl) ?_
      obtain ⟨u_5, hu_5, hq⟩ := pv_bind hq
      refine pv_sRO (pc := 122) (rest := []) (st1 := [.int u_5]) (ws := ([] : va_W)) [.int y0] ⟨hx, hb, hml, hown, hts⟩ hE hA hS hP hD (c_X0_lowest l E y0 u_5 hu_5) (va_cwS 1 hts gX2_follow_X0_lowest rfl rfl rfl (by decide +kernel) ⟨(Nat.le_of_ble_eq_true rfl), (Nat.le_of_ble_eq_true rfl)⟩) [] rfl rfl rfl hl.1 rfl rfl (Nat.le_of_ble_eq_true rfl) dX2_follow_122 ⟨Nat.zero_le _, Nat.zero_le _⟩ (fun locs hS => ?_)
      exact pv_riRO hx hb hr hlk hS (Option.some.inj hq) dX2_follow_125
    have hq := pv_neg c_4 hq
    by_cases c_6 : x0 = 3
    · have hq := pv_pos c_6 hq
      refine lv_tableIn (pc := 22) (tgt := 61) (off := 39) hx hb dX2_follow_22 (by rw [c_6]; decide) (by rw [c_6]; decide) (by rw [c_6]; rfl) (by decide) ?_
      refine lv_iload (pc := 61) hx hb dX2_follow_61 (lv_at hl 5 rfl) ?_
      refine lv_iload_n (pc := 63) hx hb dX2_follow_63 rfl (lv_at hl 2 rfl) ?_
      refine lv_icmp_ne (pc := 64) (tgt := 74) hx hb dX2_follow_64 (by decide) (fun c_7 => ?_) (fun c_7 => ?_)
      · have hq := pv_neg c_7 hq
        refine lv_iload_n (pc := 74) hx hb dX2_follow_74 rfl (lv_at hl 2 rfl) ?_
        refine lv_iload (pc := 75) hx hb dX2_follow_75 (lv_at hl 5 rfl) ?_
        refine lv_iconst (pc := 77) (v := (-1)) hx hb dX2_follow_77 (by decide) ?_
        refine lv_ixor (pc := 78) hx hb dX2_follow_78 ?_
        refine lv_iand (pc := 79) hx hb dX2_follow_79 ?_
        obtain ⟨u_8, hu_8, hq⟩ := pv_bind hq
        refine pv_sRO (pc := 80) (rest := []) (st1 := [.int u_8]) (ws := ([] : va_W)) [.int (x1 &&& (x4 ^^^ (-1)))] ⟨hx, hb, hml, hown, hts⟩ hE hA hS hP hD (c_X0_highest l E (x1 &&& (x4 ^^^ (-1))) u_8 hu_8) (va_cwS 1 hts gX2_follow_X0_highest rfl rfl rfl (by decide +kernel) ⟨(Nat.le_of_ble_eq_true rfl), (Nat.le_of_ble_eq_true rfl)⟩) [] rfl rfl rfl hl.1 rfl rfl (Nat.le_of_ble_eq_true rfl) dX2_follow_80 ⟨Nat.zero_le _, Nat.zero_le _⟩ (fun locs hS => ?_)
        exact pv_riRO hx hb hr hlk hS (Option.some.inj hq) dX2_follow_83
      · have hq := pv_pos c_7 hq
        refine lv_iload_n (pc := 67) hx hb dX2_follow_67 rfl (lv_at hl 2 rfl) ?_
        obtain ⟨u_9, hu_9, hq⟩ := pv_bind hq
        refine pv_sRO (pc := 68) (rest := []) (st1 := [.int u_9]) (ws := ([] : va_W)) [.int x1] ⟨hx, hb, hml, hown, hts⟩ hE hA hS hP hD (c_X0_lowest l E x1 u_9 hu_9) (va_cwS 1 hts gX2_follow_X0_lowest rfl rfl rfl (by decide +kernel) ⟨(Nat.le_of_ble_eq_true rfl), (Nat.le_of_ble_eq_true rfl)⟩) [] rfl rfl rfl hl.1 rfl rfl (Nat.le_of_ble_eq_true rfl) dX2_follow_68 ⟨Nat.zero_le _, Nat.zero_le _⟩ (fun locs hS => ?_)
        refine lv_goto (pc := 71) (tgt := 83) hx hb dX2_follow_71 (by decide) ?_
        exact pv_riRO hx hb hr hlk hS (Option.some.inj hq) dX2_follow_83
    have hq := pv_neg c_6 hq
    by_cases c_10 : x0 = 4
    · have hq := pv_pos c_10 hq
      refine lv_tableIn (pc := 22) (tgt := 84) (off := 62) hx hb dX2_follow_22 (by rw [c_10]; decide) (by rw [c_10]; decide) (by rw [c_10]; rfl) (by decide) ?_
      refine lv_iload_n (pc := 84) hx hb dX2_follow_84 rfl (lv_at hl 3 rfl) ?_
      refine pv_sRO (pc := 85) (rest := []) (st1 := [.int (m_X0_suit x2)]) (ws := ([] : va_W)) [.int x2] ⟨hx, hb, hml, hown, hts⟩ hE hA hS hP hD (c_X0_suit l E x2) (va_cwS 1 hts gX2_follow_X0_suit rfl rfl rfl (by decide +kernel) ⟨(Nat.le_of_ble_eq_true rfl), (Nat.le_of_ble_eq_true rfl)⟩) [] rfl rfl rfl hl.1 rfl rfl (Nat.le_of_ble_eq_true rfl) dX2_follow_85 ⟨Nat.zero_le _, Nat.zero_le _⟩ (fun locs hS => ?_)
      refine lv_iload_n (pc := 88) hx hb dX2_follow_88 rfl (lv_at hl 4 rfl) ?_
      refine lv_icmp_ne (pc := 89) (tgt := 97) hx hb dX2_follow_89 (by decide) (fun c_11 => ?_) (fun c_11 => ?_)
      · have hq := pv_neg c_11 hq
        refine lv_iload_n (pc := 97) hx hb dX2_follow_97 rfl (lv_at hl 2 rfl) ?_
        exact B_98 x1 locs ls hS (lv_sub hl [] rfl) hq
      · have hq := pv_pos c_11 hq
        refine lv_iload (pc := 92) hx hb dX2_follow_92 (lv_at hl 0 rfl) ?_
        refine lv_goto (pc := 94) (tgt := 98) hx hb dX2_follow_94 (by decide) ?_
        exact B_98 y0 locs ls hS (lv_sub hl [] rfl) hq
    have hq := pv_neg c_10 hq
    by_cases c_13 : x0 = 5
    · have hq := pv_pos c_13 hq
      refine lv_tableIn (pc := 22) (tgt := 102) (off := 80) hx hb dX2_follow_22 (by rw [c_13]; decide) (by rw [c_13]; decide) (by rw [c_13]; rfl) (by decide) ?_
      refine lv_iload (pc := 102) hx hb dX2_follow_102 (lv_at hl 5 rfl) ?_
      refine lv_if_eq (pc := 104) (tgt := 115) hx hb dX2_follow_104 (by decide) (fun c_14 => ?_) (fun c_14 => ?_)
      · have hq := pv_pos c_14 hq
        refine lv_iload_n (pc := 115) hx hb dX2_follow_115 rfl (lv_at hl 2 rfl) ?_
        obtain ⟨u_15, hu_15, hq⟩ := pv_bind hq
        refine pv_sRO (pc := 116) (rest := []) (st1 := [.int u_15]) (ws := ([] : va_W)) [.int x1] ⟨hx, hb, hml, hown, hts⟩ hE hA hS hP hD (c_X0_lowest l E x1 u_15 hu_15) (va_cwS 1 hts gX2_follow_X0_lowest rfl rfl rfl (by decide +kernel) ⟨(Nat.le_of_ble_eq_true rfl), (Nat.le_of_ble_eq_true rfl)⟩) [] rfl rfl rfl hl.1 rfl rfl (Nat.le_of_ble_eq_true rfl) dX2_follow_116 ⟨Nat.zero_le _, Nat.zero_le _⟩ (fun locs hS => ?_)
        exact pv_riRO hx hb hr hlk hS (Option.some.inj hq) dX2_follow_119
      · have hq := pv_neg c_14 hq
        refine lv_iload (pc := 107) hx hb dX2_follow_107 (lv_at hl 5 rfl) ?_
        obtain ⟨u_16, hu_16, hq⟩ := pv_bind hq
        refine pv_sRO (pc := 109) (rest := []) (st1 := [.int u_16]) (ws := ([] : va_W)) [.int x4] ⟨hx, hb, hml, hown, hts⟩ hE hA hS hP hD (c_X0_highest l E x4 u_16 hu_16) (va_cwS 1 hts gX2_follow_X0_highest rfl rfl rfl (by decide +kernel) ⟨(Nat.le_of_ble_eq_true rfl), (Nat.le_of_ble_eq_true rfl)⟩) [] rfl rfl rfl hl.1 rfl rfl (Nat.le_of_ble_eq_true rfl) dX2_follow_109 ⟨Nat.zero_le _, Nat.zero_le _⟩ (fun locs hS => ?_)
        refine lv_goto (pc := 112) (tgt := 119) hx hb dX2_follow_112 (by decide) ?_
        exact pv_riRO hx hb hr hlk hS (Option.some.inj hq) dX2_follow_119
    have hq := pv_neg c_13 hq
    refine lv_tableOut (pc := 22) (tgt := 120) hx hb dX2_follow_22 (pv_swr (x := x0) 1 5 (fun k h1 h2 => (fun e7 => Or.elim e7 (fun e8 e9 => c_2 ((e9.trans (congrArg Int32.ofInt e8)).trans (by decide))) (fun e7 => Or.elim e7 (fun e8 e9 => c_4 ((e9.trans (congrArg Int32.ofInt e8)).trans (by decide))) (fun e7 => Or.elim e7 (fun e8 e9 => c_6 ((e9.trans (congrArg Int32.ofInt e8)).trans (by decide))) (fun e7 => Or.elim e7 (fun e8 e9 => c_10 ((e9.trans (congrArg Int32.ofInt e8)).trans (by decide))) (fun e8 e9 => c_13 ((e9.trans (congrArg Int32.ofInt e8)).trans (by decide))))))) (show k = 1 ∨ k = 2 ∨ k = 3 ∨ k = 4 ∨ k = 5 by omega))) (by decide) ?_
    refine lv_iload (pc := 120) hx hb dX2_follow_120 (lv_at hl 0 rfl) ?_
    obtain ⟨u_17, hu_17, hq⟩ := pv_bind hq
    refine pv_sRO (pc := 122) (rest := []) (st1 := [.int u_17]) (ws := ([] : va_W)) [.int y0] ⟨hx, hb, hml, hown, hts⟩ hE hA hS hP hD (c_X0_lowest l E y0 u_17 hu_17) (va_cwS 1 hts gX2_follow_X0_lowest rfl rfl rfl (by decide +kernel) ⟨(Nat.le_of_ble_eq_true rfl), (Nat.le_of_ble_eq_true rfl)⟩) [] rfl rfl rfl hl.1 rfl rfl (Nat.le_of_ble_eq_true rfl) dX2_follow_122 ⟨Nat.zero_le _, Nat.zero_le _⟩ (fun locs hS => ?_)
    exact pv_riRO hx hb hr hlk hS (Option.some.inj hq) dX2_follow_125
  suffices M0 : ∀ (locs : List Loc), va_S A s.heap s.heap locs → W p l e r_X2_follow s m args below meth c s.heap locs 0 0 (MQ below (pv_Ro (some (.int F))) args s 0 0 A) (F0 m 0 ls []) from M0 [] hS
  intro locs hS
  refine lv_iload_n (pc := 0) hx hb dX2_follow_0 rfl (lv_at hl 1 rfl) ?_
  refine lv_iload_n (pc := 1) hx hb dX2_follow_1 rfl (lv_at hl 2 rfl) ?_
  refine lv_iload_n (pc := 2) hx hb dX2_follow_2 rfl (lv_at hl 3 rfl) ?_
  refine pv_sRO (pc := 3) (rest := []) (st1 := [.int (m_X0_beating x1 x2 x3)]) (ws := ([] : va_W)) [.int x1, .int x2, .int x3] ⟨hx, hb, hml, hown, hts⟩ hE hA hS hP hD (c_X0_beating l E x1 x2 x3) (va_cwS 3 hts gX2_follow_X0_beating rfl rfl rfl (by decide +kernel) ⟨(Nat.le_of_ble_eq_true rfl), (Nat.le_of_ble_eq_true rfl)⟩) [] rfl rfl rfl hl.1 rfl rfl (Nat.le_of_ble_eq_true rfl) dX2_follow_3 ⟨Nat.zero_le _, Nat.zero_le _⟩ (fun locs hS => ?_)
  refine lv_istore (pc := 6) (lv' := [(4, .int (m_X0_beating x1 x2 x3)), (0, .int x0), (1, .int x1), (2, .int x2), (3, .int x3)]) hx hb dX2_follow_6 hl (Nat.le_of_ble_eq_true rfl) rfl (fun ls hl => ?_)
  refine lv_iload (pc := 8) hx hb dX2_follow_8 (lv_at hl 0 rfl) ?_
  refine lv_if_eq (pc := 10) (tgt := 18) hx hb dX2_follow_10 (by decide) (fun c_1 => ?_) (fun c_1 => ?_)
  · have hq := pv_pos c_1 hq
    refine lv_iload_n (pc := 18) hx hb dX2_follow_18 rfl (lv_at hl 2 rfl) ?_
    exact B_19 x0 x1 x2 x3 (m_X0_beating x1 x2 x3) x1 locs ls hS (lv_sub hl [1, 2, 3, 4, 0] rfl) hq
  · have hq := pv_neg c_1 hq
    refine lv_iload (pc := 13) hx hb dX2_follow_13 (lv_at hl 0 rfl) ?_
    refine lv_goto (pc := 15) (tgt := 19) hx hb dX2_follow_15 (by decide) ?_
    exact B_19 x0 x1 x2 x3 (m_X0_beating x1 x2 x3) (m_X0_beating x1 x2 x3) locs ls hS (lv_sub hl [1, 2, 3, 4, 0] rfl) hq
def m_X2_name (x0 : Int32) : Nat :=
  if x0 = 0 then 0 else if x0 = 1 then 1 else if x0 = 2 then 2 else if x0 = 3 then 3 else if x0 = 4 then 4 else 5
abbrev r_X2_name : Room := { frames := 0, cells := 0, slots := 0, locals := 0 }
set_option maxHeartbeats 4000000 in
set_option maxRecDepth 100000 in
theorem c_X2_name (l : Launch) (E : pv_E)  (x0 : Int32) : pv_RO l E yX2_name wsX2_name r_X2_name (([] : va_W)) [.int x0] (some (.ref (pv_k E (m_X2_name x0)))) := by
  generalize hq : m_X2_name x0 = F
  intro sz
  refine pv_mk (by decide) rfl (Nat.le_of_ble_eq_true rfl) ?_
  intro p e s m args below meth c A hx hb hr hml hown hts hlk hAe hP hD0 hA hE hS ls hl
  have hown : s.vm.findClass RX2 = some m.cls := hown
  have hK := hE.1
  have hD := hD0
  have hl : lv_has ls 1 [(0, .int x0)] := hl
  suffices M0 : ∀ (locs : List Loc), va_S A s.heap s.heap locs → W p l e r_X2_name s m args below meth c s.heap locs 0 0 (MQ below (pv_Ro (some (.ref (pv_k E F)))) args s 0 0 A) (F0 m 0 ls []) from M0 [] hS
  intro locs hS
  refine lv_iload_n (pc := 0) hx hb dX2_name_0 rfl (lv_at hl 0 rfl) ?_
  by_cases c_1 : x0 = 0
  · have hq := pv_pos c_1 hq
    refine lv_tableIn (pc := 1) (tgt := 36) (off := 35) hx hb dX2_name_1 (by rw [c_1]; decide) (by rw [c_1]; decide) (by rw [c_1]; rfl) (by decide) ?_
    refine va_ldcS (pc := 36) (own := RX2) (index := 9) hx hb hown (pv_str0 hE) dX2_name_36 ?_
    exact pv_raRO hx hb hr hlk hS hq dX2_name_38
  have hq := pv_neg c_1 hq
  by_cases c_2 : x0 = 1
  · have hq := pv_pos c_2 hq
    refine lv_tableIn (pc := 1) (tgt := 39) (off := 38) hx hb dX2_name_1 (by rw [c_2]; decide) (by rw [c_2]; decide) (by rw [c_2]; rfl) (by decide) ?_
    refine va_ldcS (pc := 39) (own := RX2) (index := 11) hx hb hown (pv_str1 hE) dX2_name_39 ?_
    exact pv_raRO hx hb hr hlk hS hq dX2_name_41
  have hq := pv_neg c_2 hq
  by_cases c_3 : x0 = 2
  · have hq := pv_pos c_3 hq
    refine lv_tableIn (pc := 1) (tgt := 42) (off := 41) hx hb dX2_name_1 (by rw [c_3]; decide) (by rw [c_3]; decide) (by rw [c_3]; rfl) (by decide) ?_
    refine va_ldcS (pc := 42) (own := RX2) (index := 13) hx hb hown (pv_str2 hE) dX2_name_42 ?_
    exact pv_raRO hx hb hr hlk hS hq dX2_name_44
  have hq := pv_neg c_3 hq
  by_cases c_4 : x0 = 3
  · have hq := pv_pos c_4 hq
    refine lv_tableIn (pc := 1) (tgt := 45) (off := 44) hx hb dX2_name_1 (by rw [c_4]; decide) (by rw [c_4]; decide) (by rw [c_4]; rfl) (by decide) ?_
    refine va_ldcS (pc := 45) (own := RX2) (index := 15) hx hb hown (pv_str3 hE) dX2_name_45 ?_
    exact pv_raRO hx hb hr hlk hS hq dX2_name_47
  have hq := pv_neg c_4 hq
  by_cases c_5 : x0 = 4
  · have hq := pv_pos c_5 hq
    refine lv_tableIn (pc := 1) (tgt := 48) (off := 47) hx hb dX2_name_1 (by rw [c_5]; decide) (by rw [c_5]; decide) (by rw [c_5]; rfl) (by decide) ?_
    refine va_ldcS (pc := 48) (own := RX2) (index := 17) hx hb hown (pv_str4 hE) dX2_name_48 ?_
    exact pv_raRO hx hb hr hlk hS hq dX2_name_50
  have hq := pv_neg c_5 hq
  refine lv_tableOut (pc := 1) (tgt := 51) hx hb dX2_name_1 (pv_swr (x := x0) 0 4 (fun k h1 h2 => (fun e7 => Or.elim e7 (fun e8 e9 => c_1 ((e9.trans (congrArg Int32.ofInt e8)).trans (by decide))) (fun e7 => Or.elim e7 (fun e8 e9 => c_2 ((e9.trans (congrArg Int32.ofInt e8)).trans (by decide))) (fun e7 => Or.elim e7 (fun e8 e9 => c_3 ((e9.trans (congrArg Int32.ofInt e8)).trans (by decide))) (fun e7 => Or.elim e7 (fun e8 e9 => c_4 ((e9.trans (congrArg Int32.ofInt e8)).trans (by decide))) (fun e8 e9 => c_5 ((e9.trans (congrArg Int32.ofInt e8)).trans (by decide))))))) (show k = 0 ∨ k = 1 ∨ k = 2 ∨ k = 3 ∨ k = 4 by omega))) (by decide) ?_
  refine va_ldcS (pc := 51) (own := RX2) (index := 19) hx hb hown (pv_str5 hE) dX2_name_51 ?_
  exact pv_raRO hx hb hr hlk hS hq dX2_name_53
def m_X6_isWithin (x0 : Int32) (x1 : Int32) (x2 : Int32) : Int32 :=
  if x0 < x1 then 0 else (if x2 < x0 then 0 else 1)
abbrev r_X6_isWithin : Room := { frames := 0, cells := 0, slots := 0, locals := 0 }
set_option maxHeartbeats 4000000 in
set_option maxRecDepth 100000 in
theorem c_X6_isWithin (l : Launch) (E : pv_E)  (x0 : Int32) (x1 : Int32) (x2 : Int32) : pv_RO l E yX6_isWithin wsX6_isWithin r_X6_isWithin (([] : va_W)) [.int x0, .int x1, .int x2] (some (.int (m_X6_isWithin x0 x1 x2))) := by
  generalize hq : m_X6_isWithin x0 x1 x2 = F
  intro sz
  refine pv_mk (by decide) rfl (Nat.le_of_ble_eq_true rfl) ?_
  intro p e s m args below meth c A hx hb hr hml hown hts hlk hAe hP hD0 hA hE hS ls hl
  have hown : s.vm.findClass RX6 = some m.cls := hown
  have hK := hE.1
  have hD := hD0
  have hl : lv_has ls 3 [(0, .int x0), (1, .int x1), (2, .int x2)] := hl
  suffices M0 : ∀ (locs : List Loc), va_S A s.heap s.heap locs → W p l e r_X6_isWithin s m args below meth c s.heap locs 0 0 (MQ below (pv_Ro (some (.int F))) args s 0 0 A) (F0 m 0 ls []) from M0 [] hS
  intro locs hS
  refine lv_iload_n (pc := 0) hx hb dX6_isWithin_0 rfl (lv_at hl 0 rfl) ?_
  refine lv_iload_n (pc := 1) hx hb dX6_isWithin_1 rfl (lv_at hl 1 rfl) ?_
  refine lv_icmp_lt (pc := 2) (tgt := 14) hx hb dX6_isWithin_2 (by decide) (fun c_1 => ?_) (fun c_1 => ?_)
  · have hq := pv_pos c_1 hq
    refine lv_iconst (pc := 14) (v := 0) hx hb dX6_isWithin_14 (by decide) ?_
    exact pv_rzRO hx hb hr hlk hS hq rfl dX6_isWithin_15
  · have hq := pv_neg c_1 hq
    refine lv_iload_n (pc := 5) hx hb dX6_isWithin_5 rfl (lv_at hl 0 rfl) ?_
    refine lv_iload_n (pc := 6) hx hb dX6_isWithin_6 rfl (lv_at hl 2 rfl) ?_
    refine lv_icmp_gt (pc := 7) (tgt := 14) hx hb dX6_isWithin_7 (by decide) (fun c_2 => ?_) (fun c_2 => ?_)
    · have hq := pv_pos c_2 hq
      refine lv_iconst (pc := 14) (v := 0) hx hb dX6_isWithin_14 (by decide) ?_
      exact pv_rzRO hx hb hr hlk hS hq rfl dX6_isWithin_15
    · have hq := pv_neg c_2 hq
      refine lv_iconst (pc := 10) (v := 1) hx hb dX6_isWithin_10 (by decide) ?_
      refine lv_goto (pc := 11) (tgt := 15) hx hb dX6_isWithin_11 (by decide) ?_
      exact pv_rzRO hx hb hr hlk hS hq rfl dX6_isWithin_15
def m_X6_isState (x0 : Int32) : Int32 :=
  if x0 = 0 then 1 else (if x0 = 1 then 1 else 0)
abbrev r_X6_isState : Room := { frames := 0, cells := 0, slots := 0, locals := 0 }
set_option maxHeartbeats 4000000 in
set_option maxRecDepth 100000 in
theorem c_X6_isState (l : Launch) (E : pv_E)  (x0 : Int32) : pv_RO l E yX6_isState wsX6_isState r_X6_isState (([] : va_W)) [.int x0] (some (.int (m_X6_isState x0))) := by
  generalize hq : m_X6_isState x0 = F
  intro sz
  refine pv_mk (by decide) rfl (Nat.le_of_ble_eq_true rfl) ?_
  intro p e s m args below meth c A hx hb hr hml hown hts hlk hAe hP hD0 hA hE hS ls hl
  have hown : s.vm.findClass RX6 = some m.cls := hown
  have hK := hE.1
  have hD := hD0
  have hl : lv_has ls 1 [(0, .int x0)] := hl
  suffices M0 : ∀ (locs : List Loc), va_S A s.heap s.heap locs → W p l e r_X6_isState s m args below meth c s.heap locs 0 0 (MQ below (pv_Ro (some (.int F))) args s 0 0 A) (F0 m 0 ls []) from M0 [] hS
  intro locs hS
  refine lv_iload_n (pc := 0) hx hb dX6_isState_0 rfl (lv_at hl 0 rfl) ?_
  refine lv_if_eq (pc := 1) (tgt := 9) hx hb dX6_isState_1 (by decide) (fun c_1 => ?_) (fun c_1 => ?_)
  · have hq := pv_pos c_1 hq
    refine lv_iconst (pc := 9) (v := 1) hx hb dX6_isState_9 (by decide) ?_
    refine lv_goto (pc := 10) (tgt := 14) hx hb dX6_isState_10 (by decide) ?_
    exact pv_rzRO hx hb hr hlk hS hq rfl dX6_isState_14
  · have hq := pv_neg c_1 hq
    refine lv_iload_n (pc := 4) hx hb dX6_isState_4 rfl (lv_at hl 0 rfl) ?_
    refine lv_iconst (pc := 5) (v := 1) hx hb dX6_isState_5 (by decide) ?_
    refine lv_icmp_ne (pc := 6) (tgt := 13) hx hb dX6_isState_6 (by decide) (fun c_2 => ?_) (fun c_2 => ?_)
    · have hq := pv_neg c_2 hq
      refine lv_iconst (pc := 13) (v := 0) hx hb dX6_isState_13 (by decide) ?_
      exact pv_rzRO hx hb hr hlk hS hq rfl dX6_isState_14
    · have hq := pv_pos c_2 hq
      refine lv_iconst (pc := 9) (v := 1) hx hb dX6_isState_9 (by decide) ?_
      refine lv_goto (pc := 10) (tgt := 14) hx hb dX6_isState_10 (by decide) ?_
      exact pv_rzRO hx hb hr hlk hS hq rfl dX6_isState_14
def m_X6_isStateOrNobody (x0 : Int32) : Int32 :=
  if x0 < (-1) then 0 else (if 1 < x0 then 0 else 1)
abbrev r_X6_isStateOrNobody : Room := { frames := 0, cells := 0, slots := 0, locals := 0 }
set_option maxHeartbeats 4000000 in
set_option maxRecDepth 100000 in
theorem c_X6_isStateOrNobody (l : Launch) (E : pv_E)  (x0 : Int32) : pv_RO l E yX6_isStateOrNobody wsX6_isStateOrNobody r_X6_isStateOrNobody (([] : va_W)) [.int x0] (some (.int (m_X6_isStateOrNobody x0))) := by
  generalize hq : m_X6_isStateOrNobody x0 = F
  intro sz
  refine pv_mk (by decide) rfl (Nat.le_of_ble_eq_true rfl) ?_
  intro p e s m args below meth c A hx hb hr hml hown hts hlk hAe hP hD0 hA hE hS ls hl
  have hown : s.vm.findClass RX6 = some m.cls := hown
  have hK := hE.1
  have hD := hD0
  have hl : lv_has ls 1 [(0, .int x0)] := hl
  suffices M0 : ∀ (locs : List Loc), va_S A s.heap s.heap locs → W p l e r_X6_isStateOrNobody s m args below meth c s.heap locs 0 0 (MQ below (pv_Ro (some (.int F))) args s 0 0 A) (F0 m 0 ls []) from M0 [] hS
  intro locs hS
  refine lv_iload_n (pc := 0) hx hb dX6_isStateOrNobody_0 rfl (lv_at hl 0 rfl) ?_
  refine lv_iconst (pc := 1) (v := (-1)) hx hb dX6_isStateOrNobody_1 (by decide) ?_
  refine lv_icmp_lt (pc := 2) (tgt := 14) hx hb dX6_isStateOrNobody_2 (by decide) (fun c_1 => ?_) (fun c_1 => ?_)
  · have hq := pv_pos c_1 hq
    refine lv_iconst (pc := 14) (v := 0) hx hb dX6_isStateOrNobody_14 (by decide) ?_
    exact pv_rzRO hx hb hr hlk hS hq rfl dX6_isStateOrNobody_15
  · have hq := pv_neg c_1 hq
    refine lv_iload_n (pc := 5) hx hb dX6_isStateOrNobody_5 rfl (lv_at hl 0 rfl) ?_
    refine lv_iconst (pc := 6) (v := 1) hx hb dX6_isStateOrNobody_6 (by decide) ?_
    refine lv_icmp_gt (pc := 7) (tgt := 14) hx hb dX6_isStateOrNobody_7 (by decide) (fun c_2 => ?_) (fun c_2 => ?_)
    · have hq := pv_pos c_2 hq
      refine lv_iconst (pc := 14) (v := 0) hx hb dX6_isStateOrNobody_14 (by decide) ?_
      exact pv_rzRO hx hb hr hlk hS hq rfl dX6_isStateOrNobody_15
    · have hq := pv_neg c_2 hq
      refine lv_iconst (pc := 10) (v := 1) hx hb dX6_isStateOrNobody_10 (by decide) ?_
      refine lv_goto (pc := 11) (tgt := 15) hx hb dX6_isStateOrNobody_11 (by decide) ?_
      exact pv_rzRO hx hb hr hlk hS hq rfl dX6_isStateOrNobody_15
def m_X6_isProvince (x0 : Int32) : Int32 :=
  if x0 < 0 then 0 else (if 8 ≤ x0 then 0 else 1)
abbrev r_X6_isProvince : Room := { frames := 0, cells := 0, slots := 0, locals := 0 }
set_option maxHeartbeats 4000000 in
set_option maxRecDepth 100000 in
theorem c_X6_isProvince (l : Launch) (E : pv_E)  (x0 : Int32) : pv_RO l E yX6_isProvince wsX6_isProvince r_X6_isProvince (([] : va_W)) [.int x0] (some (.int (m_X6_isProvince x0))) := by
  generalize hq : m_X6_isProvince x0 = F
  intro sz
  refine pv_mk (by decide) rfl (Nat.le_of_ble_eq_true rfl) ?_
  intro p e s m args below meth c A hx hb hr hml hown hts hlk hAe hP hD0 hA hE hS ls hl
  have hown : s.vm.findClass RX6 = some m.cls := hown
  have hK := hE.1
  have hD := hD0
  have hl : lv_has ls 1 [(0, .int x0)] := hl
  suffices M0 : ∀ (locs : List Loc), va_S A s.heap s.heap locs → W p l e r_X6_isProvince s m args below meth c s.heap locs 0 0 (MQ below (pv_Ro (some (.int F))) args s 0 0 A) (F0 m 0 ls []) from M0 [] hS
  intro locs hS
  refine lv_iload_n (pc := 0) hx hb dX6_isProvince_0 rfl (lv_at hl 0 rfl) ?_
  refine lv_if_lt (pc := 1) (tgt := 14) hx hb dX6_isProvince_1 (by decide) (fun c_1 => ?_) (fun c_1 => ?_)
  · have hq := pv_pos c_1 hq
    refine lv_iconst (pc := 14) (v := 0) hx hb dX6_isProvince_14 (by decide) ?_
    exact pv_rzRO hx hb hr hlk hS hq rfl dX6_isProvince_15
  · have hq := pv_neg c_1 hq
    refine lv_iload_n (pc := 4) hx hb dX6_isProvince_4 rfl (lv_at hl 0 rfl) ?_
    refine lv_bipush (pc := 5) (v := 8) hx hb dX6_isProvince_5 (by decide) ?_
    refine lv_icmp_ge (pc := 7) (tgt := 14) hx hb dX6_isProvince_7 (by decide) (fun c_2 => ?_) (fun c_2 => ?_)
    · have hq := pv_pos c_2 hq
      refine lv_iconst (pc := 14) (v := 0) hx hb dX6_isProvince_14 (by decide) ?_
      exact pv_rzRO hx hb hr hlk hS hq rfl dX6_isProvince_15
    · have hq := pv_neg c_2 hq
      refine lv_iconst (pc := 10) (v := 1) hx hb dX6_isProvince_10 (by decide) ?_
      refine lv_goto (pc := 11) (tgt := 15) hx hb dX6_isProvince_11 (by decide) ?_
      exact pv_rzRO hx hb hr hlk hS hq rfl dX6_isProvince_15
def m_X6_isSheet (x0 : Int32) : Int32 :=
  if x0 < 0 then 0 else (if 4 ≤ x0 then 0 else 1)
abbrev r_X6_isSheet : Room := { frames := 0, cells := 0, slots := 0, locals := 0 }
set_option maxHeartbeats 4000000 in
set_option maxRecDepth 100000 in
theorem c_X6_isSheet (l : Launch) (E : pv_E)  (x0 : Int32) : pv_RO l E yX6_isSheet wsX6_isSheet r_X6_isSheet (([] : va_W)) [.int x0] (some (.int (m_X6_isSheet x0))) := by
  generalize hq : m_X6_isSheet x0 = F
  intro sz
  refine pv_mk (by decide) rfl (Nat.le_of_ble_eq_true rfl) ?_
  intro p e s m args below meth c A hx hb hr hml hown hts hlk hAe hP hD0 hA hE hS ls hl
  have hown : s.vm.findClass RX6 = some m.cls := hown
  have hK := hE.1
  have hD := hD0
  have hl : lv_has ls 1 [(0, .int x0)] := hl
  suffices M0 : ∀ (locs : List Loc), va_S A s.heap s.heap locs → W p l e r_X6_isSheet s m args below meth c s.heap locs 0 0 (MQ below (pv_Ro (some (.int F))) args s 0 0 A) (F0 m 0 ls []) from M0 [] hS
  intro locs hS
  refine lv_iload_n (pc := 0) hx hb dX6_isSheet_0 rfl (lv_at hl 0 rfl) ?_
  refine lv_if_lt (pc := 1) (tgt := 13) hx hb dX6_isSheet_1 (by decide) (fun c_1 => ?_) (fun c_1 => ?_)
  · have hq := pv_pos c_1 hq
    refine lv_iconst (pc := 13) (v := 0) hx hb dX6_isSheet_13 (by decide) ?_
    exact pv_rzRO hx hb hr hlk hS hq rfl dX6_isSheet_14
  · have hq := pv_neg c_1 hq
    refine lv_iload_n (pc := 4) hx hb dX6_isSheet_4 rfl (lv_at hl 0 rfl) ?_
    refine lv_iconst (pc := 5) (v := 4) hx hb dX6_isSheet_5 (by decide) ?_
    refine lv_icmp_ge (pc := 6) (tgt := 13) hx hb dX6_isSheet_6 (by decide) (fun c_2 => ?_) (fun c_2 => ?_)
    · have hq := pv_pos c_2 hq
      refine lv_iconst (pc := 13) (v := 0) hx hb dX6_isSheet_13 (by decide) ?_
      exact pv_rzRO hx hb hr hlk hS hq rfl dX6_isSheet_14
    · have hq := pv_neg c_2 hq
      refine lv_iconst (pc := 9) (v := 1) hx hb dX6_isSheet_9 (by decide) ?_
      refine lv_goto (pc := 10) (tgt := 14) hx hb dX6_isSheet_10 (by decide) ?_
      exact pv_rzRO hx hb hr hlk hS hq rfl dX6_isSheet_14
def m_X6_isMix (x0 : Int32) : Int32 :=
  if x0 < 1 then 0 else (if 31 < x0 then 0 else (if (pv_rem x0 2) = 1 then 1 else 0))
abbrev r_X6_isMix : Room := { frames := 0, cells := 0, slots := 0, locals := 0 }
set_option maxHeartbeats 4000000 in
set_option maxRecDepth 100000 in
theorem c_X6_isMix (l : Launch) (E : pv_E)  (x0 : Int32) : pv_RO l E yX6_isMix wsX6_isMix r_X6_isMix (([] : va_W)) [.int x0] (some (.int (m_X6_isMix x0))) := by
  generalize hq : m_X6_isMix x0 = F
  intro sz
  refine pv_mk (by decide) rfl (Nat.le_of_ble_eq_true rfl) ?_
  intro p e s m args below meth c A hx hb hr hml hown hts hlk hAe hP hD0 hA hE hS ls hl
  have hown : s.vm.findClass RX6 = some m.cls := hown
  have hK := hE.1
  have hD := hD0
  have hl : lv_has ls 1 [(0, .int x0)] := hl
  suffices M0 : ∀ (locs : List Loc), va_S A s.heap s.heap locs → W p l e r_X6_isMix s m args below meth c s.heap locs 0 0 (MQ below (pv_Ro (some (.int F))) args s 0 0 A) (F0 m 0 ls []) from M0 [] hS
  intro locs hS
  refine lv_iload_n (pc := 0) hx hb dX6_isMix_0 rfl (lv_at hl 0 rfl) ?_
  refine lv_iconst (pc := 1) (v := 1) hx hb dX6_isMix_1 (by decide) ?_
  refine lv_icmp_lt (pc := 2) (tgt := 22) hx hb dX6_isMix_2 (by decide) (fun c_1 => ?_) (fun c_1 => ?_)
  · have hq := pv_pos c_1 hq
    refine lv_iconst (pc := 22) (v := 0) hx hb dX6_isMix_22 (by decide) ?_
    exact pv_rzRO hx hb hr hlk hS hq rfl dX6_isMix_23
  · have hq := pv_neg c_1 hq
    refine lv_iload_n (pc := 5) hx hb dX6_isMix_5 rfl (lv_at hl 0 rfl) ?_
    refine lv_bipush (pc := 6) (v := 31) hx hb dX6_isMix_6 (by decide) ?_
    refine lv_icmp_gt (pc := 8) (tgt := 22) hx hb dX6_isMix_8 (by decide) (fun c_2 => ?_) (fun c_2 => ?_)
    · have hq := pv_pos c_2 hq
      refine lv_iconst (pc := 22) (v := 0) hx hb dX6_isMix_22 (by decide) ?_
      exact pv_rzRO hx hb hr hlk hS hq rfl dX6_isMix_23
    · have hq := pv_neg c_2 hq
      refine lv_iload_n (pc := 11) hx hb dX6_isMix_11 rfl (lv_at hl 0 rfl) ?_
      refine lv_iconst (pc := 12) (v := 2) hx hb dX6_isMix_12 (by decide) ?_
      refine pv_irem (pc := 13) hx hb dX6_isMix_13 (by decide) ?_
      refine lv_iconst (pc := 14) (v := 1) hx hb dX6_isMix_14 (by decide) ?_
      refine lv_icmp_ne (pc := 15) (tgt := 22) hx hb dX6_isMix_15 (by decide) (fun c_3 => ?_) (fun c_3 => ?_)
      · have hq := pv_neg c_3 hq
        refine lv_iconst (pc := 22) (v := 0) hx hb dX6_isMix_22 (by decide) ?_
        exact pv_rzRO hx hb hr hlk hS hq rfl dX6_isMix_23
      · have hq := pv_pos c_3 hq
        refine lv_iconst (pc := 18) (v := 1) hx hb dX6_isMix_18 (by decide) ?_
        refine lv_goto (pc := 19) (tgt := 23) hx hb dX6_isMix_19 (by decide) ?_
        exact pv_rzRO hx hb hr hlk hS hq rfl dX6_isMix_23
def m_X5_isLetter (x0 : Int32) : Int32 :=
  if x0 < 97 then 0 else (if 122 < x0 then 0 else 1)
abbrev r_X5_isLetter : Room := { frames := 0, cells := 0, slots := 0, locals := 0 }
set_option maxHeartbeats 4000000 in
set_option maxRecDepth 100000 in
theorem c_X5_isLetter (l : Launch) (E : pv_E)  (x0 : Int32) : pv_RO l E yX5_isLetter wsX5_isLetter r_X5_isLetter (([] : va_W)) [.int x0] (some (.int (m_X5_isLetter x0))) := by
  generalize hq : m_X5_isLetter x0 = F
  intro sz
  refine pv_mk (by decide) rfl (Nat.le_of_ble_eq_true rfl) ?_
  intro p e s m args below meth c A hx hb hr hml hown hts hlk hAe hP hD0 hA hE hS ls hl
  have hown : s.vm.findClass RX5 = some m.cls := hown
  have hK := hE.1
  have hD := hD0
  have hl : lv_has ls 1 [(0, .int x0)] := hl
  suffices M0 : ∀ (locs : List Loc), va_S A s.heap s.heap locs → W p l e r_X5_isLetter s m args below meth c s.heap locs 0 0 (MQ below (pv_Ro (some (.int F))) args s 0 0 A) (F0 m 0 ls []) from M0 [] hS
  intro locs hS
  refine lv_iload_n (pc := 0) hx hb dX5_isLetter_0 rfl (lv_at hl 0 rfl) ?_
  refine lv_bipush (pc := 1) (v := 97) hx hb dX5_isLetter_1 (by decide) ?_
  refine lv_icmp_lt (pc := 3) (tgt := 16) hx hb dX5_isLetter_3 (by decide) (fun c_1 => ?_) (fun c_1 => ?_)
  · have hq := pv_pos c_1 hq
    refine lv_iconst (pc := 16) (v := 0) hx hb dX5_isLetter_16 (by decide) ?_
    exact pv_rzRO hx hb hr hlk hS hq rfl dX5_isLetter_17
  · have hq := pv_neg c_1 hq
    refine lv_iload_n (pc := 6) hx hb dX5_isLetter_6 rfl (lv_at hl 0 rfl) ?_
    refine lv_bipush (pc := 7) (v := 122) hx hb dX5_isLetter_7 (by decide) ?_
    refine lv_icmp_gt (pc := 9) (tgt := 16) hx hb dX5_isLetter_9 (by decide) (fun c_2 => ?_) (fun c_2 => ?_)
    · have hq := pv_pos c_2 hq
      refine lv_iconst (pc := 16) (v := 0) hx hb dX5_isLetter_16 (by decide) ?_
      exact pv_rzRO hx hb hr hlk hS hq rfl dX5_isLetter_17
    · have hq := pv_neg c_2 hq
      refine lv_iconst (pc := 12) (v := 1) hx hb dX5_isLetter_12 (by decide) ?_
      refine lv_goto (pc := 13) (tgt := 17) hx hb dX5_isLetter_13 (by decide) ?_
      exact pv_rzRO hx hb hr hlk hS hq rfl dX5_isLetter_17
def m_X5_isDigit (x0 : Int32) : Int32 :=
  if x0 < 48 then 0 else (if 57 < x0 then 0 else 1)
abbrev r_X5_isDigit : Room := { frames := 0, cells := 0, slots := 0, locals := 0 }
set_option maxHeartbeats 4000000 in
set_option maxRecDepth 100000 in
theorem c_X5_isDigit (l : Launch) (E : pv_E)  (x0 : Int32) : pv_RO l E yX5_isDigit wsX5_isDigit r_X5_isDigit (([] : va_W)) [.int x0] (some (.int (m_X5_isDigit x0))) := by
  generalize hq : m_X5_isDigit x0 = F
  intro sz
  refine pv_mk (by decide) rfl (Nat.le_of_ble_eq_true rfl) ?_
  intro p e s m args below meth c A hx hb hr hml hown hts hlk hAe hP hD0 hA hE hS ls hl
  have hown : s.vm.findClass RX5 = some m.cls := hown
  have hK := hE.1
  have hD := hD0
  have hl : lv_has ls 1 [(0, .int x0)] := hl
  suffices M0 : ∀ (locs : List Loc), va_S A s.heap s.heap locs → W p l e r_X5_isDigit s m args below meth c s.heap locs 0 0 (MQ below (pv_Ro (some (.int F))) args s 0 0 A) (F0 m 0 ls []) from M0 [] hS
  intro locs hS
  refine lv_iload_n (pc := 0) hx hb dX5_isDigit_0 rfl (lv_at hl 0 rfl) ?_
  refine lv_bipush (pc := 1) (v := 48) hx hb dX5_isDigit_1 (by decide) ?_
  refine lv_icmp_lt (pc := 3) (tgt := 16) hx hb dX5_isDigit_3 (by decide) (fun c_1 => ?_) (fun c_1 => ?_)
  · have hq := pv_pos c_1 hq
    refine lv_iconst (pc := 16) (v := 0) hx hb dX5_isDigit_16 (by decide) ?_
    exact pv_rzRO hx hb hr hlk hS hq rfl dX5_isDigit_17
  · have hq := pv_neg c_1 hq
    refine lv_iload_n (pc := 6) hx hb dX5_isDigit_6 rfl (lv_at hl 0 rfl) ?_
    refine lv_bipush (pc := 7) (v := 57) hx hb dX5_isDigit_7 (by decide) ?_
    refine lv_icmp_gt (pc := 9) (tgt := 16) hx hb dX5_isDigit_9 (by decide) (fun c_2 => ?_) (fun c_2 => ?_)
    · have hq := pv_pos c_2 hq
      refine lv_iconst (pc := 16) (v := 0) hx hb dX5_isDigit_16 (by decide) ?_
      exact pv_rzRO hx hb hr hlk hS hq rfl dX5_isDigit_17
    · have hq := pv_neg c_2 hq
      refine lv_iconst (pc := 12) (v := 1) hx hb dX5_isDigit_12 (by decide) ?_
      refine lv_goto (pc := 13) (tgt := 17) hx hb dX5_isDigit_13 (by decide) ?_
      exact pv_rzRO hx hb hr hlk hS hq rfl dX5_isDigit_17
