def m_X7_in (x0 : Int64) (x2 : Int32) (x3 : Int32) : Int32 :=
  if (lg_cmp x0 x2.toInt64) < 0 then 0 else (if 0 < (lg_cmp x0 x3.toInt64) then 0 else 1)
abbrev r_X7_in : Room := { frames := 0, cells := 0, slots := 0, locals := 0 }
set_option maxHeartbeats 4000000 in
set_option maxRecDepth 100000 in
theorem c_X7_in (l : Launch) (E : pv_E)  (x0 : Int64) (x2 : Int32) (x3 : Int32) : pv_RO l E yX7_in wsX7_in r_X7_in (([] : va_W)) [.long x0, .int x2, .int x3] (some (.int (m_X7_in x0 x2 x3))) := by
  generalize hq : m_X7_in x0 x2 x3 = F
  intro sz
  refine pv_mk (by decide) rfl (Nat.le_of_ble_eq_true rfl) ?_
  intro p e s m args below meth c A hx hb hr hml hown hts hlk hAe hP hD0 hA hE hS ls hl
  have hown : s.vm.findClass RX7 = some m.cls := hown
  have hK := hE.1
  have hD := hD0
  have hl : lv_has ls 4 [(0, .long x0), (2, .int x2), (3, .int x3)] := hl
  suffices M0 : ∀ (locs : List Loc), va_S A s.heap s.heap locs → W p l e r_X7_in s m args below meth c s.heap locs 0 0 (MQ below (pv_Ro (some (.int F))) args s 0 0 A) (F0 m 0 ls []) from M0 [] hS
  intro locs hS
  refine lv_lload_n (pc := 0) hx hb dX7_in_0 rfl (lv_at hl 0 rfl) ?_
  refine lv_iload_n (pc := 1) hx hb dX7_in_1 rfl (lv_at hl 1 rfl) ?_
  refine lv_i2l (pc := 2) (v := x2.toInt64) hx hb dX7_in_2 rfl ?_
  refine W.lcmp (pc := 3) hx hb dX7_in_3 ?_
  refine lv_if_lt (pc := 4) (tgt := 18) hx hb dX7_in_4 (by decide) (fun c_1 => ?_) (fun c_1 => ?_)
  · have hq := pv_pos c_1 hq
    refine lv_iconst (pc := 18) (v := 0) hx hb dX7_in_18 (by decide) ?_
    exact pv_rzRO hx hb hr hlk hS hq rfl dX7_in_19
  · have hq := pv_neg c_1 hq
    refine lv_lload_n (pc := 7) hx hb dX7_in_7 rfl (lv_at hl 0 rfl) ?_
    refine lv_iload_n (pc := 8) hx hb dX7_in_8 rfl (lv_at hl 2 rfl) ?_
    refine lv_i2l (pc := 9) (v := x3.toInt64) hx hb dX7_in_9 rfl ?_
    refine W.lcmp (pc := 10) hx hb dX7_in_10 ?_
    refine lv_if_gt (pc := 11) (tgt := 18) hx hb dX7_in_11 (by decide) (fun c_2 => ?_) (fun c_2 => ?_)
    · have hq := pv_pos c_2 hq
      refine lv_iconst (pc := 18) (v := 0) hx hb dX7_in_18 (by decide) ?_
      exact pv_rzRO hx hb hr hlk hS hq rfl dX7_in_19
    · have hq := pv_neg c_2 hq
      refine lv_iconst (pc := 14) (v := 1) hx hb dX7_in_14 (by decide) ?_
      refine lv_goto (pc := 15) (tgt := 19) hx hb dX7_in_15 (by decide) ?_
      exact pv_rzRO hx hb hr hlk hS hq rfl dX7_in_19
def m_X7_held (x0 : Int32) (x1 : Int32) (x2 : Int32) : Int32 :=
  if x1 ≤ x0 then (if x0 ≤ x2 then x0 else x2) else x1
abbrev r_X7_held : Room := { frames := 0, cells := 0, slots := 0, locals := 0 }
set_option maxHeartbeats 4000000 in
set_option maxRecDepth 100000 in
theorem c_X7_held (l : Launch) (E : pv_E)  (x0 : Int32) (x1 : Int32) (x2 : Int32) : pv_RO l E yX7_held wsX7_held r_X7_held (([] : va_W)) [.int x0, .int x1, .int x2] (some (.int (m_X7_held x0 x1 x2))) := by
  generalize hq : m_X7_held x0 x1 x2 = F
  intro sz
  refine pv_mk (by decide) rfl (Nat.le_of_ble_eq_true rfl) ?_
  intro p e s m args below meth c A hx hb hr hml hown hts hlk hAe hP hD0 hA hE hS ls hl
  have hown : s.vm.findClass RX7 = some m.cls := hown
  have hK := hE.1
  have hD := hD0
  have hl : lv_has ls 3 [(0, .int x0), (1, .int x1), (2, .int x2)] := hl
  suffices M0 : ∀ (locs : List Loc), va_S A s.heap s.heap locs → W p l e r_X7_held s m args below meth c s.heap locs 0 0 (MQ below (pv_Ro (some (.int F))) args s 0 0 A) (F0 m 0 ls []) from M0 [] hS
  intro locs hS
  refine lv_iload_n (pc := 0) hx hb dX7_held_0 rfl (lv_at hl 0 rfl) ?_
  refine lv_iload_n (pc := 1) hx hb dX7_held_1 rfl (lv_at hl 1 rfl) ?_
  refine lv_icmp_ge (pc := 2) (tgt := 9) hx hb dX7_held_2 (by decide) (fun c_1 => ?_) (fun c_1 => ?_)
  · have hq := pv_pos c_1 hq
    refine lv_iload_n (pc := 9) hx hb dX7_held_9 rfl (lv_at hl 0 rfl) ?_
    refine lv_iload_n (pc := 10) hx hb dX7_held_10 rfl (lv_at hl 2 rfl) ?_
    refine lv_icmp_le (pc := 11) (tgt := 18) hx hb dX7_held_11 (by decide) (fun c_2 => ?_) (fun c_2 => ?_)
    · have hq := pv_pos c_2 hq
      refine lv_iload_n (pc := 18) hx hb dX7_held_18 rfl (lv_at hl 0 rfl) ?_
      exact pv_riRO hx hb hr hlk hS hq dX7_held_19
    · have hq := pv_neg c_2 hq
      refine lv_iload_n (pc := 14) hx hb dX7_held_14 rfl (lv_at hl 2 rfl) ?_
      refine lv_goto (pc := 15) (tgt := 19) hx hb dX7_held_15 (by decide) ?_
      exact pv_riRO hx hb hr hlk hS hq dX7_held_19
  · have hq := pv_neg c_1 hq
    refine lv_iload_n (pc := 5) hx hb dX7_held_5 rfl (lv_at hl 1 rfl) ?_
    refine lv_goto (pc := 6) (tgt := 19) hx hb dX7_held_6 (by decide) ?_
    exact pv_riRO hx hb hr hlk hS hq dX7_held_19
def m_X7_bits_4 : Nat → Int32 → Int32 → Option (Int32)
  | 0 => fun _ _ => none
  | n + 1 => fun x1 x2 =>
    if x2 = 0 then (some x1) else ((m_X7_bits_4 n) (x1 + 1) (x2 &&& (x2 - 1)))
def m_X7_bits (x0 : Int32) : Option (Int32) :=
  m_X7_bits_4 300 0 x0
abbrev r_X7_bits : Room := { frames := 0, cells := 0, slots := 0, locals := 0 }
set_option maxHeartbeats 4000000 in
set_option maxRecDepth 100000 in
theorem c_X7_bits (l : Launch) (E : pv_E)  (x0 : Int32) (F : Int32) (hq : m_X7_bits x0 = some F) : pv_RO l E yX7_bits wsX7_bits r_X7_bits (([] : va_W)) [.int x0] (some (.int F)) := by
  intro sz
  refine pv_mk (by decide) rfl (Nat.le_of_ble_eq_true rfl) ?_
  intro p e s m args below meth c A hx hb hr hml hown hts hlk hAe hP hD0 hA hE hS ls hl
  have hown : s.vm.findClass RX7 = some m.cls := hown
  have hK := hE.1
  have hD := hD0
  have hl : lv_has ls 3 [(0, .int x0)] := hl
  have L_4 : ∀ n : Nat, ∀ (x1 : Int32) (x2 : Int32) (locs : List Loc) (ls : Array Slot), va_S A s.heap s.heap locs → lv_has ls 3 [(1, .int x1), (2, .int x2)] → m_X7_bits_4 n x1 x2 = some F → W p l e r_X7_bits s m args below meth c s.heap locs 0 0 (MQ below (pv_Ro (some (.int F))) args s 0 0 A) (F0 m 4 ls []) := by
    intro n
    induction n with
    | zero =>
      intro x1 x2 locs ls hS hl hq
      exact (pv_no hq).elim
    | succ n ih =>
      intro x1 x2 locs ls hS hl hq
      refine lv_iload_n (pc := 4) hx hb dX7_bits_4 rfl (lv_at hl 1 rfl) ?_
      refine lv_if_eq (pc := 5) (tgt := 20) hx hb dX7_bits_5 (by decide) (fun c_1 => ?_) (fun c_1 => ?_)
      · have hq := pv_pos c_1 hq
        refine lv_iload_n (pc := 20) hx hb dX7_bits_20 rfl (lv_at hl 0 rfl) ?_
        exact pv_riRO hx hb hr hlk hS (Option.some.inj hq) dX7_bits_21
      · have hq := pv_neg c_1 hq
        refine lv_iinc (pc := 8) (v := (x1 + 1)) (lv' := [(1, .int (x1 + 1)), (2, .int x2)]) hx hb dX7_bits_8 hl (k := 0) rfl rfl (Nat.le_of_ble_eq_true rfl) rfl (fun ls hl => ?_)
        refine lv_iload_n (pc := 11) hx hb dX7_bits_11 rfl (lv_at hl 1 rfl) ?_
        refine lv_iload_n (pc := 12) hx hb dX7_bits_12 rfl (lv_at hl 1 rfl) ?_
        refine lv_iconst (pc := 13) (v := 1) hx hb dX7_bits_13 (by decide) ?_
        refine lv_isub (pc := 14) hx hb dX7_bits_14 ?_
        refine lv_iand (pc := 15) hx hb dX7_bits_15 ?_
        refine lv_istore_n (pc := 16) (lv' := [(2, .int (x2 &&& (x2 - 1))), (1, .int (x1 + 1))]) hx hb dX7_bits_16 rfl hl (Nat.le_of_ble_eq_true rfl) rfl (fun ls hl => ?_)
        refine lv_goto (pc := 17) (tgt := 4) hx hb dX7_bits_17 (by decide) ?_
        exact ih (x1 + 1) (x2 &&& (x2 - 1)) locs ls hS (lv_sub hl [1, 0] rfl) hq
  suffices M0 : ∀ (locs : List Loc), va_S A s.heap s.heap locs → W p l e r_X7_bits s m args below meth c s.heap locs 0 0 (MQ below (pv_Ro (some (.int F))) args s 0 0 A) (F0 m 0 ls []) from M0 [] hS
  intro locs hS
  refine lv_iconst (pc := 0) (v := 0) hx hb dX7_bits_0 (by decide) ?_
  refine lv_istore_n (pc := 1) (lv' := [(1, .int 0), (0, .int x0)]) hx hb dX7_bits_1 rfl hl (Nat.le_of_ble_eq_true rfl) rfl (fun ls hl => ?_)
  refine lv_iload_n (pc := 2) hx hb dX7_bits_2 rfl (lv_at hl 1 rfl) ?_
  refine lv_istore_n (pc := 3) (lv' := [(2, .int x0), (1, .int 0), (0, .int x0)]) hx hb dX7_bits_3 rfl hl (Nat.le_of_ble_eq_true rfl) rfl (fun ls hl => ?_)
  exact L_4 300 0 x0 locs ls hS (lv_sub hl [1, 0] rfl) hq
def m_X7_isLand (x0 : Int32) : Option (Int32) :=
  pv_gz (m_X7_in x0.toInt64 0 7) (some (m_X7_in x0.toInt64 0 7))
abbrev r_X7_isLand : Room := { frames := 1, cells := 0, slots := 0, locals := 23 }
set_option maxHeartbeats 4000000 in
set_option maxRecDepth 100000 in
theorem c_X7_isLand (l : Launch) (E : pv_E)  (x0 : Int32) (F : Int32) (hq : m_X7_isLand x0 = some F) : pv_RO l E yX7_isLand wsX7_isLand r_X7_isLand (([] : va_W)) [.int x0] (some (.int F)) := by
  intro sz
  refine pv_mk (by decide) rfl (Nat.le_of_ble_eq_true rfl) ?_
  intro p e s m args below meth c A hx hb hr hml hown hts hlk hAe hP hD0 hA hE hS ls hl
  have hown : s.vm.findClass RX7 = some m.cls := hown
  have hK := hE.1
  have hD := hD0
  have hl : lv_has ls 1 [(0, .int x0)] := hl
  suffices M0 : ∀ (locs : List Loc), va_S A s.heap s.heap locs → W p l e r_X7_isLand s m args below meth c s.heap locs 0 0 (MQ below (pv_Ro (some (.int F))) args s 0 0 A) (F0 m 0 ls []) from M0 [] hS
  intro locs hS
  refine lv_iload_n (pc := 0) hx hb dX7_isLand_0 rfl (lv_at hl 0 rfl) ?_
  refine lv_i2l (pc := 1) (v := x0.toInt64) hx hb dX7_isLand_1 rfl ?_
  refine lv_iconst (pc := 2) (v := 0) hx hb dX7_isLand_2 (by decide) ?_
  refine lv_bipush (pc := 3) (v := 7) hx hb dX7_isLand_3 (by decide) ?_
  refine pv_sRO (pc := 5) (rest := []) (st1 := [.int (m_X7_in x0.toInt64 0 7)]) (ws := ([] : va_W)) [.long x0.toInt64, .int 0, .int 7] ⟨hx, hb, hml, hown, hts⟩ hE hA hS hP hD (c_X7_in l E x0.toInt64 0 7) (va_cwS 3 hts gX7_isLand_X7_in rfl rfl rfl (by decide +kernel) ⟨(Nat.le_of_ble_eq_true rfl), (Nat.le_of_ble_eq_true rfl)⟩) [] rfl rfl rfl hl.1 rfl rfl (Nat.le_of_ble_eq_true rfl) dX7_isLand_5 ⟨Nat.zero_le _, Nat.zero_le _⟩ (fun locs hS => ?_)
  obtain ⟨h_1, hq⟩ := pv_gz_some hq
  exact pv_rzRO hx hb hr hlk hS (Option.some.inj hq) h_1.1 dX7_isLand_8
def m_X7_isState (x0 : Int32) : Option (Int32) :=
  pv_gz (m_X7_in x0.toInt64 0 1) (some (m_X7_in x0.toInt64 0 1))
abbrev r_X7_isState : Room := { frames := 1, cells := 0, slots := 0, locals := 23 }
set_option maxHeartbeats 4000000 in
set_option maxRecDepth 100000 in
theorem c_X7_isState (l : Launch) (E : pv_E)  (x0 : Int32) (F : Int32) (hq : m_X7_isState x0 = some F) : pv_RO l E yX7_isState wsX7_isState r_X7_isState (([] : va_W)) [.int x0] (some (.int F)) := by
  intro sz
  refine pv_mk (by decide) rfl (Nat.le_of_ble_eq_true rfl) ?_
  intro p e s m args below meth c A hx hb hr hml hown hts hlk hAe hP hD0 hA hE hS ls hl
  have hown : s.vm.findClass RX7 = some m.cls := hown
  have hK := hE.1
  have hD := hD0
  have hl : lv_has ls 1 [(0, .int x0)] := hl
  suffices M0 : ∀ (locs : List Loc), va_S A s.heap s.heap locs → W p l e r_X7_isState s m args below meth c s.heap locs 0 0 (MQ below (pv_Ro (some (.int F))) args s 0 0 A) (F0 m 0 ls []) from M0 [] hS
  intro locs hS
  refine lv_iload_n (pc := 0) hx hb dX7_isState_0 rfl (lv_at hl 0 rfl) ?_
  refine lv_i2l (pc := 1) (v := x0.toInt64) hx hb dX7_isState_1 rfl ?_
  refine lv_iconst (pc := 2) (v := 0) hx hb dX7_isState_2 (by decide) ?_
  refine lv_iconst (pc := 3) (v := 1) hx hb dX7_isState_3 (by decide) ?_
  refine pv_sRO (pc := 4) (rest := []) (st1 := [.int (m_X7_in x0.toInt64 0 1)]) (ws := ([] : va_W)) [.long x0.toInt64, .int 0, .int 1] ⟨hx, hb, hml, hown, hts⟩ hE hA hS hP hD (c_X7_in l E x0.toInt64 0 1) (va_cwS 3 hts gX7_isState_X7_in rfl rfl rfl (by decide +kernel) ⟨(Nat.le_of_ble_eq_true rfl), (Nat.le_of_ble_eq_true rfl)⟩) [] rfl rfl rfl hl.1 rfl rfl (Nat.le_of_ble_eq_true rfl) dX7_isState_4 ⟨Nat.zero_le _, Nat.zero_le _⟩ (fun locs hS => ?_)
  obtain ⟨h_1, hq⟩ := pv_gz_some hq
  exact pv_rzRO hx hb hr hlk hS (Option.some.inj hq) h_1.1 dX7_isState_7
def m_X7_isMix (x0 : Int32) : Int32 :=
  if (m_X7_in x0.toInt64 1 31) = 0 then 0 else (if (pv_rem x0 2) = 1 then 1 else 0)
abbrev r_X7_isMix : Room := { frames := 1, cells := 0, slots := 0, locals := 23 }
set_option maxHeartbeats 4000000 in
set_option maxRecDepth 100000 in
theorem c_X7_isMix (l : Launch) (E : pv_E)  (x0 : Int32) : pv_RO l E yX7_isMix wsX7_isMix r_X7_isMix (([] : va_W)) [.int x0] (some (.int (m_X7_isMix x0))) := by
  generalize hq : m_X7_isMix x0 = F
  intro sz
  refine pv_mk (by decide) rfl (Nat.le_of_ble_eq_true rfl) ?_
  intro p e s m args below meth c A hx hb hr hml hown hts hlk hAe hP hD0 hA hE hS ls hl
  have hown : s.vm.findClass RX7 = some m.cls := hown
  have hK := hE.1
  have hD := hD0
  have hl : lv_has ls 1 [(0, .int x0)] := hl
  suffices M0 : ∀ (locs : List Loc), va_S A s.heap s.heap locs → W p l e r_X7_isMix s m args below meth c s.heap locs 0 0 (MQ below (pv_Ro (some (.int F))) args s 0 0 A) (F0 m 0 ls []) from M0 [] hS
  intro locs hS
  refine lv_iload_n (pc := 0) hx hb dX7_isMix_0 rfl (lv_at hl 0 rfl) ?_
  refine lv_i2l (pc := 1) (v := x0.toInt64) hx hb dX7_isMix_1 rfl ?_
  refine lv_iconst (pc := 2) (v := 1) hx hb dX7_isMix_2 (by decide) ?_
  refine lv_bipush (pc := 3) (v := 31) hx hb dX7_isMix_3 (by decide) ?_
  refine pv_sRO (pc := 5) (rest := []) (st1 := [.int (m_X7_in x0.toInt64 1 31)]) (ws := ([] : va_W)) [.long x0.toInt64, .int 1, .int 31] ⟨hx, hb, hml, hown, hts⟩ hE hA hS hP hD (c_X7_in l E x0.toInt64 1 31) (va_cwS 3 hts gX7_isMix_X7_in rfl rfl rfl (by decide +kernel) ⟨(Nat.le_of_ble_eq_true rfl), (Nat.le_of_ble_eq_true rfl)⟩) [] rfl rfl rfl hl.1 rfl rfl (Nat.le_of_ble_eq_true rfl) dX7_isMix_5 ⟨Nat.zero_le _, Nat.zero_le _⟩ (fun locs hS => ?_)
  refine lv_if_eq (pc := 8) (tgt := 22) hx hb dX7_isMix_8 (by decide) (fun c_1 => ?_) (fun c_1 => ?_)
  · have hq := pv_pos c_1 hq
    refine lv_iconst (pc := 22) (v := 0) hx hb dX7_isMix_22 (by decide) ?_
    exact pv_rzRO hx hb hr hlk hS hq rfl dX7_isMix_23
  · have hq := pv_neg c_1 hq
    refine lv_iload_n (pc := 11) hx hb dX7_isMix_11 rfl (lv_at hl 0 rfl) ?_
    refine lv_iconst (pc := 12) (v := 2) hx hb dX7_isMix_12 (by decide) ?_
    refine pv_irem (pc := 13) hx hb dX7_isMix_13 (by decide) ?_
    refine lv_iconst (pc := 14) (v := 1) hx hb dX7_isMix_14 (by decide) ?_
    refine lv_icmp_ne (pc := 15) (tgt := 22) hx hb dX7_isMix_15 (by decide) (fun c_2 => ?_) (fun c_2 => ?_)
    · have hq := pv_neg c_2 hq
      refine lv_iconst (pc := 22) (v := 0) hx hb dX7_isMix_22 (by decide) ?_
      exact pv_rzRO hx hb hr hlk hS hq rfl dX7_isMix_23
    · have hq := pv_pos c_2 hq
      refine lv_iconst (pc := 18) (v := 1) hx hb dX7_isMix_18 (by decide) ?_
      refine lv_goto (pc := 19) (tgt := 23) hx hb dX7_isMix_19 (by decide) ?_
      exact pv_rzRO hx hb hr hlk hS hq rfl dX7_isMix_23
def m_X7_has (x0 : Int32) (x1 : Int32) : Int32 :=
  if ((pv_ushr x0 x1) &&& 1) = 1 then 1 else 0
abbrev r_X7_has : Room := { frames := 0, cells := 0, slots := 0, locals := 0 }
set_option maxHeartbeats 4000000 in
set_option maxRecDepth 100000 in
theorem c_X7_has (l : Launch) (E : pv_E)  (x0 : Int32) (x1 : Int32) : pv_RO l E yX7_has wsX7_has r_X7_has (([] : va_W)) [.int x0, .int x1] (some (.int (m_X7_has x0 x1))) := by
  generalize hq : m_X7_has x0 x1 = F
  intro sz
  refine pv_mk (by decide) rfl (Nat.le_of_ble_eq_true rfl) ?_
  intro p e s m args below meth c A hx hb hr hml hown hts hlk hAe hP hD0 hA hE hS ls hl
  have hown : s.vm.findClass RX7 = some m.cls := hown
  have hK := hE.1
  have hD := hD0
  have hl : lv_has ls 2 [(0, .int x0), (1, .int x1)] := hl
  suffices M0 : ∀ (locs : List Loc), va_S A s.heap s.heap locs → W p l e r_X7_has s m args below meth c s.heap locs 0 0 (MQ below (pv_Ro (some (.int F))) args s 0 0 A) (F0 m 0 ls []) from M0 [] hS
  intro locs hS
  refine lv_iload_n (pc := 0) hx hb dX7_has_0 rfl (lv_at hl 0 rfl) ?_
  refine lv_iload_n (pc := 1) hx hb dX7_has_1 rfl (lv_at hl 1 rfl) ?_
  refine lv_iushr (pc := 2) (v := pv_ushr x0 x1) hx hb dX7_has_2 rfl ?_
  refine lv_iconst (pc := 3) (v := 1) hx hb dX7_has_3 (by decide) ?_
  refine lv_iand (pc := 4) hx hb dX7_has_4 ?_
  refine lv_iconst (pc := 5) (v := 1) hx hb dX7_has_5 (by decide) ?_
  refine lv_icmp_ne (pc := 6) (tgt := 13) hx hb dX7_has_6 (by decide) (fun c_1 => ?_) (fun c_1 => ?_)
  · have hq := pv_neg c_1 hq
    refine lv_iconst (pc := 13) (v := 0) hx hb dX7_has_13 (by decide) ?_
    exact pv_rzRO hx hb hr hlk hS hq rfl dX7_has_14
  · have hq := pv_pos c_1 hq
    refine lv_iconst (pc := 9) (v := 1) hx hb dX7_has_9 (by decide) ?_
    refine lv_goto (pc := 10) (tgt := 14) hx hb dX7_has_10 (by decide) ?_
    exact pv_rzRO hx hb hr hlk hS hq rfl dX7_has_14
def m_X7_highest_38 (k_4 : Int32 → Int32 → Int32 → Option (Int32)) (x0 : Int32) (x2 : Int32) (y0 : Int32) : Option (Int32) :=
  k_4 x0 y0 (x2 + 1)
def m_X7_highest_37 (k_4 : Int32 → Int32 → Int32 → Option (Int32)) (x0 : Int32) (x1 : Int32) (x2 : Int32) : Option (Int32) :=
  m_X7_highest_38 k_4 x0 x2 x1
def m_X7_highest_33 (k_4 : Int32 → Int32 → Int32 → Option (Int32)) (x0 : Int32) (x2 : Int32) : Option (Int32) :=
  m_X7_highest_38 k_4 x0 x2 x2
def m_X7_highest_4 : Nat → Int32 → Int32 → Int32 → Option (Int32)
  | 0 => fun _ _ _ => none
  | n + 1 => fun x0 x1 x2 =>
    if 32 ≤ x2 then (some x1) else (if (m_X7_has x0 x2) = 0 then (m_X7_highest_37 (m_X7_highest_4 n) x0 x1 x2) else (if x1 < 0 then (m_X7_highest_33 (m_X7_highest_4 n) x0 x2) else (if (pv_rem x2 8) ≤ (pv_rem x1 8) then (m_X7_highest_37 (m_X7_highest_4 n) x0 x1 x2) else (m_X7_highest_33 (m_X7_highest_4 n) x0 x2))))
def m_X7_highest (x0 : Int32) : Option (Int32) :=
  m_X7_highest_4 300 x0 (-1) 0
abbrev r_X7_highest : Room := { frames := 1, cells := 0, slots := 0, locals := 21 }
set_option maxHeartbeats 4000000 in
set_option maxRecDepth 100000 in
theorem c_X7_highest (l : Launch) (E : pv_E)  (x0 : Int32) (F : Int32) (hq : m_X7_highest x0 = some F) : pv_RO l E yX7_highest wsX7_highest r_X7_highest (([] : va_W)) [.int x0] (some (.int F)) := by
  intro sz
  refine pv_mk (by decide) rfl (Nat.le_of_ble_eq_true rfl) ?_
  intro p e s m args below meth c A hx hb hr hml hown hts hlk hAe hP hD0 hA hE hS ls hl
  have hown : s.vm.findClass RX7 = some m.cls := hown
  have hK := hE.1
  have hD := hD0
  have hl : lv_has ls 3 [(0, .int x0)] := hl
  have B_38 : ∀ (k_4 : Int32 → Int32 → Int32 → Option (Int32)), (∀ (x0 : Int32) (x1 : Int32) (x2 : Int32) (locs : List Loc) (ls : Array Slot), va_S A s.heap s.heap locs → lv_has ls 3 [(0, .int x0), (1, .int x1), (2, .int x2)] → k_4 x0 x1 x2 = some F → W p l e r_X7_highest s m args below meth c s.heap locs 0 0 (MQ below (pv_Ro (some (.int F))) args s 0 0 A) (F0 m 4 ls [])) → ∀ (x0 : Int32) (x2 : Int32) (y0 : Int32) (locs : List Loc) (ls : Array Slot), va_S A s.heap s.heap locs → lv_has ls 3 [(0, .int x0), (2, .int x2)] → m_X7_highest_38 k_4 x0 x2 y0 = some F → W p l e r_X7_highest s m args below meth c s.heap locs 0 0 (MQ below (pv_Ro (some (.int F))) args s 0 0 A) (F0 m 38 ls [.int y0]) := by
    intro k_4 hk_4
    intro x0 x2 y0 locs ls hS hl hq
    refine lv_istore_n (pc := 38) (lv' := [(1, .int y0), (0, .int x0), (2, .int x2)]) hx hb dX7_highest_38 rfl hl (Nat.le_of_ble_eq_true rfl) rfl (fun ls hl => ?_)
    refine lv_iinc (pc := 39) (v := (x2 + 1)) (lv' := [(2, .int (x2 + 1)), (1, .int y0), (0, .int x0)]) hx hb dX7_highest_39 hl (k := 2) rfl rfl (Nat.le_of_ble_eq_true rfl) rfl (fun ls hl => ?_)
    refine lv_goto (pc := 42) (tgt := 4) hx hb dX7_highest_42 (by decide) ?_
    exact hk_4 x0 y0 (x2 + 1) locs ls hS (lv_sub hl [2, 1, 0] rfl) hq
  have B_37 : ∀ (k_4 : Int32 → Int32 → Int32 → Option (Int32)), (∀ (x0 : Int32) (x1 : Int32) (x2 : Int32) (locs : List Loc) (ls : Array Slot), va_S A s.heap s.heap locs → lv_has ls 3 [(0, .int x0), (1, .int x1), (2, .int x2)] → k_4 x0 x1 x2 = some F → W p l e r_X7_highest s m args below meth c s.heap locs 0 0 (MQ below (pv_Ro (some (.int F))) args s 0 0 A) (F0 m 4 ls [])) → ∀ (x0 : Int32) (x1 : Int32) (x2 : Int32) (locs : List Loc) (ls : Array Slot), va_S A s.heap s.heap locs → lv_has ls 3 [(0, .int x0), (1, .int x1), (2, .int x2)] → m_X7_highest_37 k_4 x0 x1 x2 = some F → W p l e r_X7_highest s m args below meth c s.heap locs 0 0 (MQ below (pv_Ro (some (.int F))) args s 0 0 A) (F0 m 37 ls []) := by
    intro k_4 hk_4
    intro x0 x1 x2 locs ls hS hl hq
    refine lv_iload_n (pc := 37) hx hb dX7_highest_37 rfl (lv_at hl 1 rfl) ?_
    exact B_38 k_4 hk_4 x0 x2 x1 locs ls hS (lv_sub hl [0, 2] rfl) hq
  have B_33 : ∀ (k_4 : Int32 → Int32 → Int32 → Option (Int32)), (∀ (x0 : Int32) (x1 : Int32) (x2 : Int32) (locs : List Loc) (ls : Array Slot), va_S A s.heap s.heap locs → lv_has ls 3 [(0, .int x0), (1, .int x1), (2, .int x2)] → k_4 x0 x1 x2 = some F → W p l e r_X7_highest s m args below meth c s.heap locs 0 0 (MQ below (pv_Ro (some (.int F))) args s 0 0 A) (F0 m 4 ls [])) → ∀ (x0 : Int32) (x2 : Int32) (locs : List Loc) (ls : Array Slot), va_S A s.heap s.heap locs → lv_has ls 3 [(0, .int x0), (2, .int x2)] → m_X7_highest_33 k_4 x0 x2 = some F → W p l e r_X7_highest s m args below meth c s.heap locs 0 0 (MQ below (pv_Ro (some (.int F))) args s 0 0 A) (F0 m 33 ls []) := by
    intro k_4 hk_4
    intro x0 x2 locs ls hS hl hq
    refine lv_iload_n (pc := 33) hx hb dX7_highest_33 rfl (lv_at hl 1 rfl) ?_
    refine lv_goto (pc := 34) (tgt := 38) hx hb dX7_highest_34 (by decide) ?_
    exact B_38 k_4 hk_4 x0 x2 x2 locs ls hS (lv_sub hl [0, 1] rfl) hq
  have L_4 : ∀ n : Nat, ∀ (x0 : Int32) (x1 : Int32) (x2 : Int32) (locs : List Loc) (ls : Array Slot), va_S A s.heap s.heap locs → lv_has ls 3 [(0, .int x0), (1, .int x1), (2, .int x2)] → m_X7_highest_4 n x0 x1 x2 = some F → W p l e r_X7_highest s m args below meth c s.heap locs 0 0 (MQ below (pv_Ro (some (.int F))) args s 0 0 A) (F0 m 4 ls []) := by
    intro n
    induction n with
    | zero =>
      intro x0 x1 x2 locs ls hS hl hq
      exact (pv_no hq).elim
    | succ n ih =>
      intro x0 x1 x2 locs ls hS hl hq
      refine lv_iload_n (pc := 4) hx hb dX7_highest_4 rfl (lv_at hl 2 rfl) ?_
      refine lv_bipush (pc := 5) (v := 32) hx hb dX7_highest_5 (by decide) ?_
      refine lv_icmp_ge (pc := 7) (tgt := 45) hx hb dX7_highest_7 (by decide) (fun c_1 => ?_) (fun c_1 => ?_)
      · have hq := pv_pos c_1 hq
        refine lv_iload_n (pc := 45) hx hb dX7_highest_45 rfl (lv_at hl 1 rfl) ?_
        exact pv_riRO hx hb hr hlk hS (Option.some.inj hq) dX7_highest_46
      · have hq := pv_neg c_1 hq
        refine lv_iload_n (pc := 10) hx hb dX7_highest_10 rfl (lv_at hl 0 rfl) ?_
        refine lv_iload_n (pc := 11) hx hb dX7_highest_11 rfl (lv_at hl 2 rfl) ?_
        refine pv_sRO (pc := 12) (rest := []) (st1 := [.int (m_X7_has x0 x2)]) (ws := ([] : va_W)) [.int x0, .int x2] ⟨hx, hb, hml, hown, hts⟩ hE hA hS hP hD (c_X7_has l E x0 x2) (va_cwS 2 hts gX7_highest_X7_has rfl rfl rfl (by decide +kernel) ⟨(Nat.le_of_ble_eq_true rfl), (Nat.le_of_ble_eq_true rfl)⟩) [] rfl rfl rfl hl.1 rfl rfl (Nat.le_of_ble_eq_true rfl) dX7_highest_12 ⟨Nat.zero_le _, Nat.zero_le _⟩ (fun locs hS => ?_)
        refine lv_if_eq (pc := 15) (tgt := 37) hx hb dX7_highest_15 (by decide) (fun c_2 => ?_) (fun c_2 => ?_)
        · have hq := pv_pos c_2 hq
          exact B_37 (m_X7_highest_4 n) ih x0 x1 x2 locs ls hS (lv_sub hl [0, 1, 2] rfl) hq
        · have hq := pv_neg c_2 hq
          refine lv_iload_n (pc := 18) hx hb dX7_highest_18 rfl (lv_at hl 1 rfl) ?_
          refine lv_if_lt (pc := 19) (tgt := 33) hx hb dX7_highest_19 (by decide) (fun c_3 => ?_) (fun c_3 => ?_)
          · have hq := pv_pos c_3 hq
            exact B_33 (m_X7_highest_4 n) ih x0 x2 locs ls hS (lv_sub hl [0, 2] rfl) hq
          · have hq := pv_neg c_3 hq
            refine lv_iload_n (pc := 22) hx hb dX7_highest_22 rfl (lv_at hl 2 rfl) ?_
            refine lv_bipush (pc := 23) (v := 8) hx hb dX7_highest_23 (by decide) ?_
            refine pv_irem (pc := 25) hx hb dX7_highest_25 (by decide) ?_
            refine lv_iload_n (pc := 26) hx hb dX7_highest_26 rfl (lv_at hl 1 rfl) ?_
            refine lv_bipush (pc := 27) (v := 8) hx hb dX7_highest_27 (by decide) ?_
            refine pv_irem (pc := 29) hx hb dX7_highest_29 (by decide) ?_
            refine lv_icmp_le (pc := 30) (tgt := 37) hx hb dX7_highest_30 (by decide) (fun c_4 => ?_) (fun c_4 => ?_)
            · have hq := pv_pos c_4 hq
              exact B_37 (m_X7_highest_4 n) ih x0 x1 x2 locs ls hS (lv_sub hl [0, 1, 2] rfl) hq
            · have hq := pv_neg c_4 hq
              exact B_33 (m_X7_highest_4 n) ih x0 x2 locs ls hS (lv_sub hl [0, 2] rfl) hq
  suffices M0 : ∀ (locs : List Loc), va_S A s.heap s.heap locs → W p l e r_X7_highest s m args below meth c s.heap locs 0 0 (MQ below (pv_Ro (some (.int F))) args s 0 0 A) (F0 m 0 ls []) from M0 [] hS
  intro locs hS
  refine lv_iconst (pc := 0) (v := (-1)) hx hb dX7_highest_0 (by decide) ?_
  refine lv_istore_n (pc := 1) (lv' := [(1, .int (-1)), (0, .int x0)]) hx hb dX7_highest_1 rfl hl (Nat.le_of_ble_eq_true rfl) rfl (fun ls hl => ?_)
  refine lv_iconst (pc := 2) (v := 0) hx hb dX7_highest_2 (by decide) ?_
  refine lv_istore_n (pc := 3) (lv' := [(2, .int 0), (1, .int (-1)), (0, .int x0)]) hx hb dX7_highest_3 rfl hl (Nat.le_of_ble_eq_true rfl) rfl (fun ls hl => ?_)
  exact L_4 300 x0 (-1) 0 locs ls hS (lv_sub hl [2, 1, 0] rfl) hq
def m_X7_lowest_38 (k_4 : Int32 → Int32 → Int32 → Option (Int32)) (x0 : Int32) (x2 : Int32) (y0 : Int32) : Option (Int32) :=
  k_4 x0 y0 (x2 + 1)
def m_X7_lowest_37 (k_4 : Int32 → Int32 → Int32 → Option (Int32)) (x0 : Int32) (x1 : Int32) (x2 : Int32) : Option (Int32) :=
  m_X7_lowest_38 k_4 x0 x2 x1
def m_X7_lowest_33 (k_4 : Int32 → Int32 → Int32 → Option (Int32)) (x0 : Int32) (x2 : Int32) : Option (Int32) :=
  m_X7_lowest_38 k_4 x0 x2 x2
def m_X7_lowest_4 : Nat → Int32 → Int32 → Int32 → Option (Int32)
  | 0 => fun _ _ _ => none
  | n + 1 => fun x0 x1 x2 =>
    if 32 ≤ x2 then (some x1) else (if (m_X7_has x0 x2) = 0 then (m_X7_lowest_37 (m_X7_lowest_4 n) x0 x1 x2) else (if x1 < 0 then (m_X7_lowest_33 (m_X7_lowest_4 n) x0 x2) else (if (pv_rem x1 8) ≤ (pv_rem x2 8) then (m_X7_lowest_37 (m_X7_lowest_4 n) x0 x1 x2) else (m_X7_lowest_33 (m_X7_lowest_4 n) x0 x2))))
def m_X7_lowest (x0 : Int32) : Option (Int32) :=
  m_X7_lowest_4 300 x0 (-1) 0
abbrev r_X7_lowest : Room := { frames := 1, cells := 0, slots := 0, locals := 21 }
set_option maxHeartbeats 4000000 in
set_option maxRecDepth 100000 in
theorem c_X7_lowest (l : Launch) (E : pv_E)  (x0 : Int32) (F : Int32) (hq : m_X7_lowest x0 = some F) : pv_RO l E yX7_lowest wsX7_lowest r_X7_lowest (([] : va_W)) [.int x0] (some (.int F)) := by
  intro sz
  refine pv_mk (by decide) rfl (Nat.le_of_ble_eq_true rfl) ?_
  intro p e s m args below meth c A hx hb hr hml hown hts hlk hAe hP hD0 hA hE hS ls hl
  have hown : s.vm.findClass RX7 = some m.cls := hown
  have hK := hE.1
  have hD := hD0
  have hl : lv_has ls 3 [(0, .int x0)] := hl
  have B_38 : ∀ (k_4 : Int32 → Int32 → Int32 → Option (Int32)), (∀ (x0 : Int32) (x1 : Int32) (x2 : Int32) (locs : List Loc) (ls : Array Slot), va_S A s.heap s.heap locs → lv_has ls 3 [(0, .int x0), (1, .int x1), (2, .int x2)] → k_4 x0 x1 x2 = some F → W p l e r_X7_lowest s m args below meth c s.heap locs 0 0 (MQ below (pv_Ro (some (.int F))) args s 0 0 A) (F0 m 4 ls [])) → ∀ (x0 : Int32) (x2 : Int32) (y0 : Int32) (locs : List Loc) (ls : Array Slot), va_S A s.heap s.heap locs → lv_has ls 3 [(0, .int x0), (2, .int x2)] → m_X7_lowest_38 k_4 x0 x2 y0 = some F → W p l e r_X7_lowest s m args below meth c s.heap locs 0 0 (MQ below (pv_Ro (some (.int F))) args s 0 0 A) (F0 m 38 ls [.int y0]) := by
    intro k_4 hk_4
    intro x0 x2 y0 locs ls hS hl hq
    refine lv_istore_n (pc := 38) (lv' := [(1, .int y0), (0, .int x0), (2, .int x2)]) hx hb dX7_lowest_38 rfl hl (Nat.le_of_ble_eq_true rfl) rfl (fun ls hl => ?_)
    refine lv_iinc (pc := 39) (v := (x2 + 1)) (lv' := [(2, .int (x2 + 1)), (1, .int y0), (0, .int x0)]) hx hb dX7_lowest_39 hl (k := 2) rfl rfl (Nat.le_of_ble_eq_true rfl) rfl (fun ls hl => ?_)
    refine lv_goto (pc := 42) (tgt := 4) hx hb dX7_lowest_42 (by decide) ?_
    exact hk_4 x0 y0 (x2 + 1) locs ls hS (lv_sub hl [2, 1, 0] rfl) hq
  have B_37 : ∀ (k_4 : Int32 → Int32 → Int32 → Option (Int32)), (∀ (x0 : Int32) (x1 : Int32) (x2 : Int32) (locs : List Loc) (ls : Array Slot), va_S A s.heap s.heap locs → lv_has ls 3 [(0, .int x0), (1, .int x1), (2, .int x2)] → k_4 x0 x1 x2 = some F → W p l e r_X7_lowest s m args below meth c s.heap locs 0 0 (MQ below (pv_Ro (some (.int F))) args s 0 0 A) (F0 m 4 ls [])) → ∀ (x0 : Int32) (x1 : Int32) (x2 : Int32) (locs : List Loc) (ls : Array Slot), va_S A s.heap s.heap locs → lv_has ls 3 [(0, .int x0), (1, .int x1), (2, .int x2)] → m_X7_lowest_37 k_4 x0 x1 x2 = some F → W p l e r_X7_lowest s m args below meth c s.heap locs 0 0 (MQ below (pv_Ro (some (.int F))) args s 0 0 A) (F0 m 37 ls []) := by
    intro k_4 hk_4
    intro x0 x1 x2 locs ls hS hl hq
    refine lv_iload_n (pc := 37) hx hb dX7_lowest_37 rfl (lv_at hl 1 rfl) ?_
    exact B_38 k_4 hk_4 x0 x2 x1 locs ls hS (lv_sub hl [0, 2] rfl) hq
  have B_33 : ∀ (k_4 : Int32 → Int32 → Int32 → Option (Int32)), (∀ (x0 : Int32) (x1 : Int32) (x2 : Int32) (locs : List Loc) (ls : Array Slot), va_S A s.heap s.heap locs → lv_has ls 3 [(0, .int x0), (1, .int x1), (2, .int x2)] → k_4 x0 x1 x2 = some F → W p l e r_X7_lowest s m args below meth c s.heap locs 0 0 (MQ below (pv_Ro (some (.int F))) args s 0 0 A) (F0 m 4 ls [])) → ∀ (x0 : Int32) (x2 : Int32) (locs : List Loc) (ls : Array Slot), va_S A s.heap s.heap locs → lv_has ls 3 [(0, .int x0), (2, .int x2)] → m_X7_lowest_33 k_4 x0 x2 = some F → W p l e r_X7_lowest s m args below meth c s.heap locs 0 0 (MQ below (pv_Ro (some (.int F))) args s 0 0 A) (F0 m 33 ls []) := by
    intro k_4 hk_4
    intro x0 x2 locs ls hS hl hq
    refine lv_iload_n (pc := 33) hx hb dX7_lowest_33 rfl (lv_at hl 1 rfl) ?_
    refine lv_goto (pc := 34) (tgt := 38) hx hb dX7_lowest_34 (by decide) ?_
    exact B_38 k_4 hk_4 x0 x2 x2 locs ls hS (lv_sub hl [0, 1] rfl) hq
  have L_4 : ∀ n : Nat, ∀ (x0 : Int32) (x1 : Int32) (x2 : Int32) (locs : List Loc) (ls : Array Slot), va_S A s.heap s.heap locs → lv_has ls 3 [(0, .int x0), (1, .int x1), (2, .int x2)] → m_X7_lowest_4 n x0 x1 x2 = some F → W p l e r_X7_lowest s m args below meth c s.heap locs 0 0 (MQ below (pv_Ro (some (.int F))) args s 0 0 A) (F0 m 4 ls []) := by
    intro n
    induction n with
    | zero =>
      intro x0 x1 x2 locs ls hS hl hq
      exact (pv_no hq).elim
    | succ n ih =>
      intro x0 x1 x2 locs ls hS hl hq
      refine lv_iload_n (pc := 4) hx hb dX7_lowest_4 rfl (lv_at hl 2 rfl) ?_
      refine lv_bipush (pc := 5) (v := 32) hx hb dX7_lowest_5 (by decide) ?_
      refine lv_icmp_ge (pc := 7) (tgt := 45) hx hb dX7_lowest_7 (by decide) (fun c_1 => ?_) (fun c_1 => ?_)
      · have hq := pv_pos c_1 hq
        refine lv_iload_n (pc := 45) hx hb dX7_lowest_45 rfl (lv_at hl 1 rfl) ?_
        exact pv_riRO hx hb hr hlk hS (Option.some.inj hq) dX7_lowest_46
      · have hq := pv_neg c_1 hq
        refine lv_iload_n (pc := 10) hx hb dX7_lowest_10 rfl (lv_at hl 0 rfl) ?_
        refine lv_iload_n (pc := 11) hx hb dX7_lowest_11 rfl (lv_at hl 2 rfl) ?_
        refine pv_sRO (pc := 12) (rest := []) (st1 := [.int (m_X7_has x0 x2)]) (ws := ([] : va_W)) [.int x0, .int x2] ⟨hx, hb, hml, hown, hts⟩ hE hA hS hP hD (c_X7_has l E x0 x2) (va_cwS 2 hts gX7_lowest_X7_has rfl rfl rfl (by decide +kernel) ⟨(Nat.le_of_ble_eq_true rfl), (Nat.le_of_ble_eq_true rfl)⟩) [] rfl rfl rfl hl.1 rfl rfl (Nat.le_of_ble_eq_true rfl) dX7_lowest_12 ⟨Nat.zero_le _, Nat.zero_le _⟩ (fun locs hS => ?_)
        refine lv_if_eq (pc := 15) (tgt := 37) hx hb dX7_lowest_15 (by decide) (fun c_2 => ?_) (fun c_2 => ?_)
        · have hq := pv_pos c_2 hq
          exact B_37 (m_X7_lowest_4 n) ih x0 x1 x2 locs ls hS (lv_sub hl [0, 1, 2] rfl) hq
        · have hq := pv_neg c_2 hq
          refine lv_iload_n (pc := 18) hx hb dX7_lowest_18 rfl (lv_at hl 1 rfl) ?_
          refine lv_if_lt (pc := 19) (tgt := 33) hx hb dX7_lowest_19 (by decide) (fun c_3 => ?_) (fun c_3 => ?_)
          · have hq := pv_pos c_3 hq
            exact B_33 (m_X7_lowest_4 n) ih x0 x2 locs ls hS (lv_sub hl [0, 2] rfl) hq
          · have hq := pv_neg c_3 hq
            refine lv_iload_n (pc := 22) hx hb dX7_lowest_22 rfl (lv_at hl 2 rfl) ?_
            refine lv_bipush (pc := 23) (v := 8) hx hb dX7_lowest_23 (by decide) ?_
            refine pv_irem (pc := 25) hx hb dX7_lowest_25 (by decide) ?_
            refine lv_iload_n (pc := 26) hx hb dX7_lowest_26 rfl (lv_at hl 1 rfl) ?_
            refine lv_bipush (pc := 27) (v := 8) hx hb dX7_lowest_27 (by decide) ?_
            refine pv_irem (pc := 29) hx hb dX7_lowest_29 (by decide) ?_
            refine lv_icmp_ge (pc := 30) (tgt := 37) hx hb dX7_lowest_30 (by decide) (fun c_4 => ?_) (fun c_4 => ?_)
            · have hq := pv_pos c_4 hq
              exact B_37 (m_X7_lowest_4 n) ih x0 x1 x2 locs ls hS (lv_sub hl [0, 1, 2] rfl) hq
            · have hq := pv_neg c_4 hq
              exact B_33 (m_X7_lowest_4 n) ih x0 x2 locs ls hS (lv_sub hl [0, 2] rfl) hq
  suffices M0 : ∀ (locs : List Loc), va_S A s.heap s.heap locs → W p l e r_X7_lowest s m args below meth c s.heap locs 0 0 (MQ below (pv_Ro (some (.int F))) args s 0 0 A) (F0 m 0 ls []) from M0 [] hS
  intro locs hS
  refine lv_iconst (pc := 0) (v := (-1)) hx hb dX7_lowest_0 (by decide) ?_
  refine lv_istore_n (pc := 1) (lv' := [(1, .int (-1)), (0, .int x0)]) hx hb dX7_lowest_1 rfl hl (Nat.le_of_ble_eq_true rfl) rfl (fun ls hl => ?_)
  refine lv_iconst (pc := 2) (v := 0) hx hb dX7_lowest_2 (by decide) ?_
  refine lv_istore_n (pc := 3) (lv' := [(2, .int 0), (1, .int (-1)), (0, .int x0)]) hx hb dX7_lowest_3 rfl hl (Nat.le_of_ble_eq_true rfl) rfl (fun ls hl => ?_)
  exact L_4 300 x0 (-1) 0 locs ls hS (lv_sub hl [2, 1, 0] rfl) hq
def m_X7_isSheet (x0 : Int32) : Option (Int32) :=
  pv_gz (m_X7_in x0.toInt64 0 3) (some (m_X7_in x0.toInt64 0 3))
abbrev r_X7_isSheet : Room := { frames := 1, cells := 0, slots := 0, locals := 23 }
set_option maxHeartbeats 4000000 in
set_option maxRecDepth 100000 in
theorem c_X7_isSheet (l : Launch) (E : pv_E)  (x0 : Int32) (F : Int32) (hq : m_X7_isSheet x0 = some F) : pv_RO l E yX7_isSheet wsX7_isSheet r_X7_isSheet (([] : va_W)) [.int x0] (some (.int F)) := by
  intro sz
  refine pv_mk (by decide) rfl (Nat.le_of_ble_eq_true rfl) ?_
  intro p e s m args below meth c A hx hb hr hml hown hts hlk hAe hP hD0 hA hE hS ls hl
  have hown : s.vm.findClass RX7 = some m.cls := hown
  have hK := hE.1
  have hD := hD0
  have hl : lv_has ls 1 [(0, .int x0)] := hl
  suffices M0 : ∀ (locs : List Loc), va_S A s.heap s.heap locs → W p l e r_X7_isSheet s m args below meth c s.heap locs 0 0 (MQ below (pv_Ro (some (.int F))) args s 0 0 A) (F0 m 0 ls []) from M0 [] hS
  intro locs hS
  refine lv_iload_n (pc := 0) hx hb dX7_isSheet_0 rfl (lv_at hl 0 rfl) ?_
  refine lv_i2l (pc := 1) (v := x0.toInt64) hx hb dX7_isSheet_1 rfl ?_
  refine lv_iconst (pc := 2) (v := 0) hx hb dX7_isSheet_2 (by decide) ?_
  refine lv_iconst (pc := 3) (v := 3) hx hb dX7_isSheet_3 (by decide) ?_
  refine pv_sRO (pc := 4) (rest := []) (st1 := [.int (m_X7_in x0.toInt64 0 3)]) (ws := ([] : va_W)) [.long x0.toInt64, .int 0, .int 3] ⟨hx, hb, hml, hown, hts⟩ hE hA hS hP hD (c_X7_in l E x0.toInt64 0 3) (va_cwS 3 hts gX7_isSheet_X7_in rfl rfl rfl (by decide +kernel) ⟨(Nat.le_of_ble_eq_true rfl), (Nat.le_of_ble_eq_true rfl)⟩) [] rfl rfl rfl hl.1 rfl rfl (Nat.le_of_ble_eq_true rfl) dX7_isSheet_4 ⟨Nat.zero_le _, Nat.zero_le _⟩ (fun locs hS => ?_)
  obtain ⟨h_1, hq⟩ := pv_gz_some hq
  exact pv_rzRO hx hb hr hlk hS (Option.some.inj hq) h_1.1 dX7_isSheet_7
def m_X7_cutTo (x0 : Int32) (x1 : Int64) : Int64 :=
  if x0 = 8 then x1.toInt32.toInt8.toInt32.toInt64 else (if x0 = 16 then x1.toInt32.toInt16.toInt32.toInt64 else x1)
abbrev r_X7_cutTo : Room := { frames := 0, cells := 0, slots := 0, locals := 0 }
set_option maxHeartbeats 4000000 in
set_option maxRecDepth 100000 in
theorem c_X7_cutTo (l : Launch) (E : pv_E)  (x0 : Int32) (x1 : Int64) : pv_RO l E yX7_cutTo wsX7_cutTo r_X7_cutTo (([] : va_W)) [.int x0, .long x1] (some (.long (m_X7_cutTo x0 x1))) := by
  generalize hq : m_X7_cutTo x0 x1 = F
  intro sz
  refine pv_mk (by decide) rfl (Nat.le_of_ble_eq_true rfl) ?_
  intro p e s m args below meth c A hx hb hr hml hown hts hlk hAe hP hD0 hA hE hS ls hl
  have hown : s.vm.findClass RX7 = some m.cls := hown
  have hK := hE.1
  have hD := hD0
  have hl : lv_has ls 3 [(0, .int x0), (1, .long x1)] := hl
  suffices M0 : ∀ (locs : List Loc), va_S A s.heap s.heap locs → W p l e r_X7_cutTo s m args below meth c s.heap locs 0 0 (MQ below (pv_Ro (some (.long F))) args s 0 0 A) (F0 m 0 ls []) from M0 [] hS
  intro locs hS
  refine lv_iload_n (pc := 0) hx hb dX7_cutTo_0 rfl (lv_at hl 0 rfl) ?_
  refine lv_bipush (pc := 1) (v := 8) hx hb dX7_cutTo_1 (by decide) ?_
  refine lv_icmp_ne (pc := 3) (tgt := 13) hx hb dX7_cutTo_3 (by decide) (fun c_1 => ?_) (fun c_1 => ?_)
  · have hq := pv_neg c_1 hq
    refine lv_iload_n (pc := 13) hx hb dX7_cutTo_13 rfl (lv_at hl 0 rfl) ?_
    refine lv_bipush (pc := 14) (v := 16) hx hb dX7_cutTo_14 (by decide) ?_
    refine lv_icmp_ne (pc := 16) (tgt := 26) hx hb dX7_cutTo_16 (by decide) (fun c_2 => ?_) (fun c_2 => ?_)
    · have hq := pv_neg c_2 hq
      refine lv_lload_n (pc := 26) hx hb dX7_cutTo_26 rfl (lv_at hl 1 rfl) ?_
      exact pv_rlRO hx hb hr hlk hS hq dX7_cutTo_27
    · have hq := pv_pos c_2 hq
      refine lv_lload_n (pc := 19) hx hb dX7_cutTo_19 rfl (lv_at hl 1 rfl) ?_
      refine lv_l2i (pc := 20) (v := x1.toInt32) hx hb dX7_cutTo_20 rfl ?_
      refine lv_i2s (pc := 21) (v := x1.toInt32.toInt16.toInt32) hx hb dX7_cutTo_21 rfl ?_
      refine lv_i2l (pc := 22) (v := x1.toInt32.toInt16.toInt32.toInt64) hx hb dX7_cutTo_22 rfl ?_
      refine lv_goto (pc := 23) (tgt := 27) hx hb dX7_cutTo_23 (by decide) ?_
      exact pv_rlRO hx hb hr hlk hS hq dX7_cutTo_27
  · have hq := pv_pos c_1 hq
    refine lv_lload_n (pc := 6) hx hb dX7_cutTo_6 rfl (lv_at hl 1 rfl) ?_
    refine lv_l2i (pc := 7) (v := x1.toInt32) hx hb dX7_cutTo_7 rfl ?_
    refine lv_i2b (pc := 8) (v := x1.toInt32.toInt8.toInt32) hx hb dX7_cutTo_8 rfl ?_
    refine lv_i2l (pc := 9) (v := x1.toInt32.toInt8.toInt32.toInt64) hx hb dX7_cutTo_9 rfl ?_
    refine lv_goto (pc := 10) (tgt := 27) hx hb dX7_cutTo_10 (by decide) ?_
    exact pv_rlRO hx hb hr hlk hS hq dX7_cutTo_27
def m_X7_copyAll_2 : Nat → Int32 → (pv_AI × pv_AI) → Option (pv_AI × pv_AI)
  | 0 => fun _ _ => none
  | n + 1 => fun x2 w =>
    if 31 ≤ x2 then (some w) else (pv_gd x2 31 (pv_gd x2 31 ((m_X7_copyAll_2 n) (x2 + 1) (w.1, (upd w.2 x2.toNatClampNeg (w.1 x2.toNatClampNeg))))))
def m_X7_copyAll  (w : pv_AI × pv_AI) : Option (pv_AI × pv_AI) :=
  m_X7_copyAll_2 300 0 w
abbrev r_X7_copyAll : Room := { frames := 0, cells := 0, slots := 0, locals := 0 }
set_option maxHeartbeats 4000000 in
set_option maxRecDepth 100000 in
theorem c_X7_copyAll (l : Launch) (E : pv_E) (a0 b0 : Nat)  (w0 : pv_AI × pv_AI) (F : pv_AI × pv_AI) (hq : m_X7_copyAll w0 = some F) : pv_RW l E yX7_copyAll wsX7_copyAll r_X7_copyAll (pv_wA31 E a0 w0.1 ++ pv_wA31 E b0 w0.2) [.ref a0, .ref b0] (none) (pv_wA31 E a0 F.1 ++ pv_wA31 E b0 F.2) := by
  intro sz
  refine pv_mk (by decide) rfl (Nat.le_of_ble_eq_true rfl) ?_
  intro p e s m args below meth c A hx hb hr hml hown hts hlk hAe hP hD0 hA hE hS ls hl
  have hown : s.vm.findClass RX7 = some m.cls := hown
  have hK := hE.1
  have hD : ∀ w : pv_AI × pv_AI, va_D A (pv_wA31 E a0 w.1 ++ pv_wA31 E b0 w.2) := fun w => pv_Dm (ws := pv_wA31 E a0 w0.1 ++ pv_wA31 E b0 w0.2) (ws' := pv_wA31 E a0 w.1 ++ pv_wA31 E b0 w.2) rfl hD0
  have hP : va_P E.1 vwCl (pv_wA31 E a0 w0.1 ++ pv_wA31 E b0 w0.2) s.heap := hP
  have hl : lv_has ls 3 [(0, .ref a0), (1, .ref b0)] := hl
  have L_2 : ∀ n : Nat, ∀ (x2 : Int32) (w : pv_AI × pv_AI) (H : Heap) (locs : List Loc) (ls : Array Slot), va_P E.1 vwCl (pv_wA31 E a0 w.1 ++ pv_wA31 E b0 w.2) H → va_S A s.heap H locs → lv_has ls 3 [(0, .ref a0), (1, .ref b0), (2, .int x2)] → m_X7_copyAll_2 n x2 w = some F → W p l e r_X7_copyAll s m args below meth c H locs 0 0 (MQ below (pv_Rw E (pv_wA31 E a0 w0.1 ++ pv_wA31 E b0 w0.2) sz (none) ((fun w : pv_AI × pv_AI => pv_wA31 E a0 w.1 ++ pv_wA31 E b0 w.2) F)) args s 0 0 A) (F0 m 2 ls []) := by
    intro n
    induction n with
    | zero =>
      intro x2 w H locs ls hP hS hl hq
      exact (pv_no hq).elim
    | succ n ih =>
      intro x2 w H locs ls hP hS hl hq
      refine lv_iload_n (pc := 2) hx hb dX7_copyAll_2 rfl (lv_at hl 2 rfl) ?_
      refine lv_bipush (pc := 3) (v := 31) hx hb dX7_copyAll_3 (by decide) ?_
      refine lv_icmp_ge (pc := 5) (tgt := 20) hx hb dX7_copyAll_5 (by decide) (fun c_1 => ?_) (fun c_1 => ?_)
      · have hq := pv_pos c_1 hq
        exact pv_rvRW (w := fun w : pv_AI × pv_AI => pv_wA31 E a0 w.1 ++ pv_wA31 E b0 w.2) hx hb hr hlk hAe hS hP (Option.some.inj hq) dX7_copyAll_20
      · have hq := pv_neg c_1 hq
        refine lv_aload_n (pc := 8) hx hb dX7_copyAll_8 rfl (lv_at hl 1 rfl) ?_
        refine lv_iload_n (pc := 9) hx hb dX7_copyAll_9 rfl (lv_at hl 2 rfl) ?_
        refine lv_aload_n (pc := 10) hx hb dX7_copyAll_10 rfl (lv_at hl 0 rfl) ?_
        refine lv_iload_n (pc := 11) hx hb dX7_copyAll_11 rfl (lv_at hl 2 rfl) ?_
        obtain ⟨h_2, hq⟩ := pv_gd_some hq
        refine va_iald (pc := 12) (D := E.1) hx hb hK hP 0 0 rfl rfl h_2 dX7_copyAll_12 ?_
        obtain ⟨h_3, hq⟩ := pv_gd_some hq
        refine va_iast (pc := 13) (D := E.1) hx hb hK hP (hD w) hS 1 0 rfl rfl h_3 dX7_copyAll_13 (fun H locs hP _ hS => ?_)
        have hP : va_P E.1 vwCl (pv_wA31 E a0 ((w.1, (upd w.2 x2.toNatClampNeg (w.1 x2.toNatClampNeg))).1) ++ pv_wA31 E b0 ((w.1, (upd w.2 x2.toNatClampNeg (w.1 x2.toNatClampNeg))).2)) H := hP
        refine lv_iinc (pc := 14) (v := (x2 + 1)) (lv' := [(2, .int (x2 + 1)), (0, .ref a0), (1, .ref b0)]) hx hb dX7_copyAll_14 hl (k := 2) rfl rfl (Nat.le_of_ble_eq_true rfl) rfl (fun ls hl => ?_)
        refine lv_goto (pc := 17) (tgt := 2) hx hb dX7_copyAll_17 (by decide) ?_
        exact ih (x2 + 1) (w.1, (upd w.2 x2.toNatClampNeg (w.1 x2.toNatClampNeg))) H locs ls hP hS (lv_sub hl [1, 2, 0] rfl) hq
  suffices M0 : ∀ (H : Heap) (locs : List Loc), va_P E.1 vwCl (pv_wA31 E a0 w0.1 ++ pv_wA31 E b0 w0.2) H → va_S A s.heap H locs → W p l e r_X7_copyAll s m args below meth c H locs 0 0 (MQ below (pv_Rw E (pv_wA31 E a0 w0.1 ++ pv_wA31 E b0 w0.2) sz (none) ((fun w : pv_AI × pv_AI => pv_wA31 E a0 w.1 ++ pv_wA31 E b0 w.2) F)) args s 0 0 A) (F0 m 0 ls []) from M0 s.heap [] hP hS
  intro H locs hP hS
  refine lv_iconst (pc := 0) (v := 0) hx hb dX7_copyAll_0 (by decide) ?_
  refine lv_istore_n (pc := 1) (lv' := [(2, .int 0), (0, .ref a0), (1, .ref b0)]) hx hb dX7_copyAll_1 rfl hl (Nat.le_of_ble_eq_true rfl) rfl (fun ls hl => ?_)
  exact L_2 300 0 w0 H locs ls hP hS (lv_sub hl [1, 2, 0] rfl) hq
def m_X7_finds (x1 : Int32) (w : pv_MT) : Option (Int32 × pv_MT) :=
  pv_gd ((-1000000001) - x1) 7 (pv_gd ((-1000000001) - x1) 7 (some (x1, (w.1, w.2.1, w.2.2.1, w.2.2.2.1, (upd w.2.2.2.2.1 ((-1000000001) - x1).toNatClampNeg ((w.2.2.2.2.1 ((-1000000001) - x1).toNatClampNeg) + 1)), w.2.2.2.2.2.1, w.2.2.2.2.2.2.1, w.2.2.2.2.2.2.2.1, w.2.2.2.2.2.2.2.2.1, w.2.2.2.2.2.2.2.2.2.1, w.2.2.2.2.2.2.2.2.2.2.1, w.2.2.2.2.2.2.2.2.2.2.2.1, w.2.2.2.2.2.2.2.2.2.2.2.2.1, w.2.2.2.2.2.2.2.2.2.2.2.2.2.1, w.2.2.2.2.2.2.2.2.2.2.2.2.2.2.1, w.2.2.2.2.2.2.2.2.2.2.2.2.2.2.2.1, w.2.2.2.2.2.2.2.2.2.2.2.2.2.2.2.2))))
abbrev r_X7_finds : Room := { frames := 0, cells := 0, slots := 0, locals := 0 }
set_option maxHeartbeats 4000000 in
set_option maxRecDepth 100000 in
theorem c_X7_finds (l : Launch) (E : pv_E) (a0 a1 a2 a3 a4 a5 a6 a7 a8 a9 a10 : Nat) (x1 : Int32) (w0 : pv_MT) (F : Int32 × pv_MT) (hq : m_X7_finds x1 w0 = some F) : pv_RW l E yX7_finds wsX7_finds r_X7_finds (pv_wM E a0 a1 a2 a3 a4 a5 a6 a7 a8 a9 a10 w0) [.ref a0, .int x1] (some (.int F.1)) (pv_wM E a0 a1 a2 a3 a4 a5 a6 a7 a8 a9 a10 F.2) := by
  intro sz
  refine pv_mk (by decide) rfl (Nat.le_of_ble_eq_true rfl) ?_
  intro p e s m args below meth c A hx hb hr hml hown hts hlk hAe hP hD0 hA hE hS ls hl
  have hown : s.vm.findClass RX7 = some m.cls := hown
  have hK := hE.1
  have hD : ∀ w : pv_MT, va_D A (pv_wM E a0 a1 a2 a3 a4 a5 a6 a7 a8 a9 a10 w) := fun w => pv_Dm (ws := pv_wM E a0 a1 a2 a3 a4 a5 a6 a7 a8 a9 a10 w0) (ws' := pv_wM E a0 a1 a2 a3 a4 a5 a6 a7 a8 a9 a10 w) rfl hD0
  have hP : va_P E.1 vwCl (pv_wM E a0 a1 a2 a3 a4 a5 a6 a7 a8 a9 a10 w0) s.heap := hP
  have fl_19 : (Cond.fieldLink RX7 19 "ProvinceCardsModel" "found" "[I").before args s = true := hts _ (by decide +kernel)
  have lc_41 : (Cond.constant RX7 41 (-1000000001)).before args s = true := hts _ (by decide +kernel)
  have i_RX7 : ∀ w ∈ wsX70, w ∈ wsX7_finds := by decide +kernel
  have hl : lv_has ls 2 [(0, .ref a0), (1, .int x1)] := hl
  suffices M0 : ∀ (H : Heap) (locs : List Loc), va_P E.1 vwCl (pv_wM E a0 a1 a2 a3 a4 a5 a6 a7 a8 a9 a10 w0) H → va_S A s.heap H locs → W p l e r_X7_finds s m args below meth c H locs 0 0 (MQ below (pv_Rw E (pv_wM E a0 a1 a2 a3 a4 a5 a6 a7 a8 a9 a10 w0) sz (some (.int F.1)) ((fun w : pv_MT => pv_wM E a0 a1 a2 a3 a4 a5 a6 a7 a8 a9 a10 w) F.2)) args s 0 0 A) (F0 m 0 ls []) from M0 s.heap [] hP hS
  intro H locs hP hS
  refine lv_aload_n (pc := 0) hx hb dX7_finds_0 rfl (lv_at hl 0 rfl) ?_
  refine va_get (pc := 1) (D := E.1) (ci := 5) (v := .ref a4) (C := RX7) (T := TX7) (N := 17) hx hb hts i_RX7 hown hK hP 0 rfl rfl 4 (Nat.le_of_ble_eq_true rfl) fl_19 (fun _ h9 => h9) rfl dX7_finds_1 ?_
  refine lv_ldc (pc := 4) hx hb hown lc_41 dX7_finds_4 ?_
  refine lv_iload_n (pc := 6) hx hb dX7_finds_6 rfl (lv_at hl 1 rfl) ?_
  refine lv_isub (pc := 7) hx hb dX7_finds_7 ?_
  refine lv_dup2_11 (pc := 8) hx hb dX7_finds_8 rfl rfl ?_
  obtain ⟨h_1, hq⟩ := pv_gd_some hq
  refine va_iald (pc := 9) (D := E.1) hx hb hK hP 4 0 rfl rfl h_1 dX7_finds_9 ?_
  refine lv_iconst (pc := 10) (v := 1) hx hb dX7_finds_10 (by decide) ?_
  refine lv_iadd (pc := 11) hx hb dX7_finds_11 ?_
  obtain ⟨h_2, hq⟩ := pv_gd_some hq
  refine va_iast (pc := 12) (D := E.1) hx hb hK hP (hD w0) hS 4 0 rfl rfl h_2 dX7_finds_12 (fun H locs hP _ hS => ?_)
  have hP : va_P E.1 vwCl (pv_wM E a0 a1 a2 a3 a4 a5 a6 a7 a8 a9 a10 (w0.1, w0.2.1, w0.2.2.1, w0.2.2.2.1, (upd w0.2.2.2.2.1 ((-1000000001) - x1).toNatClampNeg ((w0.2.2.2.2.1 ((-1000000001) - x1).toNatClampNeg) + 1)), w0.2.2.2.2.2.1, w0.2.2.2.2.2.2.1, w0.2.2.2.2.2.2.2.1, w0.2.2.2.2.2.2.2.2.1, w0.2.2.2.2.2.2.2.2.2.1, w0.2.2.2.2.2.2.2.2.2.2.1, w0.2.2.2.2.2.2.2.2.2.2.2.1, w0.2.2.2.2.2.2.2.2.2.2.2.2.1, w0.2.2.2.2.2.2.2.2.2.2.2.2.2.1, w0.2.2.2.2.2.2.2.2.2.2.2.2.2.2.1, w0.2.2.2.2.2.2.2.2.2.2.2.2.2.2.2.1, w0.2.2.2.2.2.2.2.2.2.2.2.2.2.2.2.2)) H := hP
  refine lv_iload_n (pc := 13) hx hb dX7_finds_13 rfl (lv_at hl 1 rfl) ?_
  exact pv_riRW (w := fun w : pv_MT => pv_wM E a0 a1 a2 a3 a4 a5 a6 a7 a8 a9 a10 w) hx hb hr hlk hAe hS hP (Option.some.inj hq) dX7_finds_14
def m_X7_orNone (x1 : Int32) (w : pv_MT) : Option (Int32 × pv_MT) :=
  if 0 ≤ x1 then (some (x1, w)) else (Option.bind (m_X7_finds (-1000000004) w) fun u_2 => (some (u_2.1, u_2.2)))
abbrev r_X7_orNone : Room := { frames := 1, cells := 0, slots := 0, locals := 21 }
set_option maxHeartbeats 4000000 in
set_option maxRecDepth 100000 in
theorem c_X7_orNone (l : Launch) (E : pv_E) (a0 a1 a2 a3 a4 a5 a6 a7 a8 a9 a10 : Nat) (x1 : Int32) (w0 : pv_MT) (F : Int32 × pv_MT) (hq : m_X7_orNone x1 w0 = some F) : pv_RW l E yX7_orNone wsX7_orNone r_X7_orNone (pv_wM E a0 a1 a2 a3 a4 a5 a6 a7 a8 a9 a10 w0) [.ref a0, .int x1] (some (.int F.1)) (pv_wM E a0 a1 a2 a3 a4 a5 a6 a7 a8 a9 a10 F.2) := by
  intro sz
  refine pv_mk (by decide) rfl (Nat.le_of_ble_eq_true rfl) ?_
  intro p e s m args below meth c A hx hb hr hml hown hts hlk hAe hP hD0 hA hE hS ls hl
  have hown : s.vm.findClass RX7 = some m.cls := hown
  have hK := hE.1
  have hD : ∀ w : pv_MT, va_D A (pv_wM E a0 a1 a2 a3 a4 a5 a6 a7 a8 a9 a10 w) := fun w => pv_Dm (ws := pv_wM E a0 a1 a2 a3 a4 a5 a6 a7 a8 a9 a10 w0) (ws' := pv_wM E a0 a1 a2 a3 a4 a5 a6 a7 a8 a9 a10 w) rfl hD0
  have hP : va_P E.1 vwCl (pv_wM E a0 a1 a2 a3 a4 a5 a6 a7 a8 a9 a10 w0) s.heap := hP
  have lc_42 : (Cond.constant RX7 42 (-1000000004)).before args s = true := hts _ (by decide +kernel)
  have hl : lv_has ls 2 [(0, .ref a0), (1, .int x1)] := hl
  suffices M0 : ∀ (H : Heap) (locs : List Loc), va_P E.1 vwCl (pv_wM E a0 a1 a2 a3 a4 a5 a6 a7 a8 a9 a10 w0) H → va_S A s.heap H locs → W p l e r_X7_orNone s m args below meth c H locs 0 0 (MQ below (pv_Rw E (pv_wM E a0 a1 a2 a3 a4 a5 a6 a7 a8 a9 a10 w0) sz (some (.int F.1)) ((fun w : pv_MT => pv_wM E a0 a1 a2 a3 a4 a5 a6 a7 a8 a9 a10 w) F.2)) args s 0 0 A) (F0 m 0 ls []) from M0 s.heap [] hP hS
  intro H locs hP hS
  refine lv_iload_n (pc := 0) hx hb dX7_orNone_0 rfl (lv_at hl 1 rfl) ?_
  refine lv_if_ge (pc := 1) (tgt := 13) hx hb dX7_orNone_1 (by decide) (fun c_1 => ?_) (fun c_1 => ?_)
  · have hq := pv_pos c_1 hq
    refine lv_iload_n (pc := 13) hx hb dX7_orNone_13 rfl (lv_at hl 1 rfl) ?_
    exact pv_riRW (w := fun w : pv_MT => pv_wM E a0 a1 a2 a3 a4 a5 a6 a7 a8 a9 a10 w) hx hb hr hlk hAe hS hP (Option.some.inj hq) dX7_orNone_14
  · have hq := pv_neg c_1 hq
    refine lv_aload_n (pc := 4) hx hb dX7_orNone_4 rfl (lv_at hl 0 rfl) ?_
    refine lv_ldc (pc := 5) hx hb hown lc_42 dX7_orNone_5 ?_
    obtain ⟨u_2, hu_2, hq⟩ := pv_bind hq
    refine pv_vRWf (pc := 7) (rest := []) (st1 := [.int u_2.1]) (ws := pv_wM E a0 a1 a2 a3 a4 a5 a6 a7 a8 a9 a10 w0) [.int (-1000000004)] ⟨hx, hb, hml, hown, hts⟩ hE hA hS hP (hD w0) (c_X7_finds l E a0 a1 a2 a3 a4 a5 a6 a7 a8 a9 a10 (-1000000004) w0 u_2 hu_2) (cwV 1 hts gX7_orNone_X7_finds rfl rfl rfl (by decide +kernel) ⟨(Nat.le_of_ble_eq_true rfl), (Nat.le_of_ble_eq_true rfl)⟩) (va_recv hK hP (ci := 5) (q0 := 0) rfl rfl) rfl hl.1 rfl rfl (Nat.le_of_ble_eq_true rfl) dX7_orNone_7 ⟨Nat.zero_le _, Nat.zero_le _⟩ (fun H locs hP hS => ?_)
    have hP : va_P E.1 vwCl (pv_wM E a0 a1 a2 a3 a4 a5 a6 a7 a8 a9 a10 u_2.2) H := hP
    refine lv_goto (pc := 10) (tgt := 14) hx hb dX7_orNone_10 (by decide) ?_
    exact pv_riRW (w := fun w : pv_MT => pv_wM E a0 a1 a2 a3 a4 a5 a6 a7 a8 a9 a10 w) hx hb hr hlk hAe hS hP (Option.some.inj hq) dX7_orNone_14
def m_X7_becomes (x1 : Int32) (x2 : Int32) (w : pv_MT) : Option (Int32 × pv_MT) :=
  pv_gd x1 31 (pv_gd x1 31 (some ((w.1 x1.toNatClampNeg), ((upd w.1 x1.toNatClampNeg x2), w.2.1, w.2.2.1, w.2.2.2.1, w.2.2.2.2.1, w.2.2.2.2.2.1, w.2.2.2.2.2.2.1, w.2.2.2.2.2.2.2.1, w.2.2.2.2.2.2.2.2.1, w.2.2.2.2.2.2.2.2.2.1, w.2.2.2.2.2.2.2.2.2.2.1, w.2.2.2.2.2.2.2.2.2.2.2.1, w.2.2.2.2.2.2.2.2.2.2.2.2.1, w.2.2.2.2.2.2.2.2.2.2.2.2.2.1, w.2.2.2.2.2.2.2.2.2.2.2.2.2.2.1, w.2.2.2.2.2.2.2.2.2.2.2.2.2.2.2.1, w.2.2.2.2.2.2.2.2.2.2.2.2.2.2.2.2))))
abbrev r_X7_becomes : Room := { frames := 0, cells := 0, slots := 0, locals := 0 }
set_option maxHeartbeats 4000000 in
set_option maxRecDepth 100000 in
theorem c_X7_becomes (l : Launch) (E : pv_E) (a0 a1 a2 a3 a4 a5 a6 a7 a8 a9 a10 : Nat) (x1 : Int32) (x2 : Int32) (w0 : pv_MT) (F : Int32 × pv_MT) (hq : m_X7_becomes x1 x2 w0 = some F) : pv_RW l E yX7_becomes wsX7_becomes r_X7_becomes (pv_wM E a0 a1 a2 a3 a4 a5 a6 a7 a8 a9 a10 w0) [.ref a0, .int x1, .int x2] (some (.int F.1)) (pv_wM E a0 a1 a2 a3 a4 a5 a6 a7 a8 a9 a10 F.2) := by
  intro sz
  refine pv_mk (by decide) rfl (Nat.le_of_ble_eq_true rfl) ?_
  intro p e s m args below meth c A hx hb hr hml hown hts hlk hAe hP hD0 hA hE hS ls hl
  have hown : s.vm.findClass RX7 = some m.cls := hown
  have hK := hE.1
  have hD : ∀ w : pv_MT, va_D A (pv_wM E a0 a1 a2 a3 a4 a5 a6 a7 a8 a9 a10 w) := fun w => pv_Dm (ws := pv_wM E a0 a1 a2 a3 a4 a5 a6 a7 a8 a9 a10 w0) (ws' := pv_wM E a0 a1 a2 a3 a4 a5 a6 a7 a8 a9 a10 w) rfl hD0
  have hP : va_P E.1 vwCl (pv_wM E a0 a1 a2 a3 a4 a5 a6 a7 a8 a9 a10 w0) s.heap := hP
  have fl_9 : (Cond.fieldLink RX7 9 "ProvinceCardsModel" "m" "[I").before args s = true := hts _ (by decide +kernel)
  have i_RX7 : ∀ w ∈ wsX70, w ∈ wsX7_becomes := by decide +kernel
  have hl : lv_has ls 4 [(0, .ref a0), (1, .int x1), (2, .int x2)] := hl
  suffices M0 : ∀ (H : Heap) (locs : List Loc), va_P E.1 vwCl (pv_wM E a0 a1 a2 a3 a4 a5 a6 a7 a8 a9 a10 w0) H → va_S A s.heap H locs → W p l e r_X7_becomes s m args below meth c H locs 0 0 (MQ below (pv_Rw E (pv_wM E a0 a1 a2 a3 a4 a5 a6 a7 a8 a9 a10 w0) sz (some (.int F.1)) ((fun w : pv_MT => pv_wM E a0 a1 a2 a3 a4 a5 a6 a7 a8 a9 a10 w) F.2)) args s 0 0 A) (F0 m 0 ls []) from M0 s.heap [] hP hS
  intro H locs hP hS
  refine lv_aload_n (pc := 0) hx hb dX7_becomes_0 rfl (lv_at hl 0 rfl) ?_
  refine va_get (pc := 1) (D := E.1) (ci := 5) (v := .ref a1) (C := RX7) (T := TX7) (N := 17) hx hb hts i_RX7 hown hK hP 0 rfl rfl 0 (Nat.le_of_ble_eq_true rfl) fl_9 (fun _ h9 => h9) rfl dX7_becomes_1 ?_
  refine lv_iload_n (pc := 4) hx hb dX7_becomes_4 rfl (lv_at hl 1 rfl) ?_
  obtain ⟨h_1, hq⟩ := pv_gd_some hq
  refine va_iald (pc := 5) (D := E.1) hx hb hK hP 1 0 rfl rfl h_1 dX7_becomes_5 ?_
  refine lv_istore_n (pc := 6) (lv' := [(3, .int (w0.1 x1.toNatClampNeg)), (0, .ref a0), (1, .int x1), (2, .int x2)]) hx hb dX7_becomes_6 rfl hl (Nat.le_of_ble_eq_true rfl) rfl (fun ls hl => ?_)
  refine lv_aload_n (pc := 7) hx hb dX7_becomes_7 rfl (lv_at hl 1 rfl) ?_
  refine va_get (pc := 8) (D := E.1) (ci := 5) (v := .ref a1) (C := RX7) (T := TX7) (N := 17) hx hb hts i_RX7 hown hK hP 0 rfl rfl 0 (Nat.le_of_ble_eq_true rfl) fl_9 (fun _ h9 => h9) rfl dX7_becomes_8 ?_
  refine lv_iload_n (pc := 11) hx hb dX7_becomes_11 rfl (lv_at hl 2 rfl) ?_
  refine lv_iload_n (pc := 12) hx hb dX7_becomes_12 rfl (lv_at hl 3 rfl) ?_
  obtain ⟨h_2, hq⟩ := pv_gd_some hq
  refine va_iast (pc := 13) (D := E.1) hx hb hK hP (hD w0) hS 1 0 rfl rfl h_2 dX7_becomes_13 (fun H locs hP _ hS => ?_)
  have hP : va_P E.1 vwCl (pv_wM E a0 a1 a2 a3 a4 a5 a6 a7 a8 a9 a10 ((upd w0.1 x1.toNatClampNeg x2), w0.2.1, w0.2.2.1, w0.2.2.2.1, w0.2.2.2.2.1, w0.2.2.2.2.2.1, w0.2.2.2.2.2.2.1, w0.2.2.2.2.2.2.2.1, w0.2.2.2.2.2.2.2.2.1, w0.2.2.2.2.2.2.2.2.2.1, w0.2.2.2.2.2.2.2.2.2.2.1, w0.2.2.2.2.2.2.2.2.2.2.2.1, w0.2.2.2.2.2.2.2.2.2.2.2.2.1, w0.2.2.2.2.2.2.2.2.2.2.2.2.2.1, w0.2.2.2.2.2.2.2.2.2.2.2.2.2.2.1, w0.2.2.2.2.2.2.2.2.2.2.2.2.2.2.2.1, w0.2.2.2.2.2.2.2.2.2.2.2.2.2.2.2.2)) H := hP
  refine lv_iload_n (pc := 14) hx hb dX7_becomes_14 rfl (lv_at hl 0 rfl) ?_
  exact pv_riRW (w := fun w : pv_MT => pv_wM E a0 a1 a2 a3 a4 a5 a6 a7 a8 a9 a10 w) hx hb hr hlk hAe hS hP (Option.some.inj hq) dX7_becomes_15
def m_X7_isEnvoy (x1 : Int32) (w : pv_MT) : Option (Int32) :=
  pv_gz (m_X7_in x1.toInt64 0 ((w.1 2) - 1)) (some (m_X7_in x1.toInt64 0 ((w.1 2) - 1)))
abbrev r_X7_isEnvoy : Room := { frames := 1, cells := 0, slots := 0, locals := 23 }
set_option maxHeartbeats 4000000 in
set_option maxRecDepth 100000 in
theorem c_X7_isEnvoy (l : Launch) (E : pv_E) (a0 a1 a2 a3 a4 a5 a6 a7 a8 a9 a10 : Nat) (x1 : Int32) (w : pv_MT) (F : Int32) (hq : m_X7_isEnvoy x1 w = some F) : pv_RO l E yX7_isEnvoy wsX7_isEnvoy r_X7_isEnvoy (pv_wM E a0 a1 a2 a3 a4 a5 a6 a7 a8 a9 a10 w) [.ref a0, .int x1] (some (.int F)) := by
  intro sz
  refine pv_mk (by decide) rfl (Nat.le_of_ble_eq_true rfl) ?_
  intro p e s m args below meth c A hx hb hr hml hown hts hlk hAe hP hD0 hA hE hS ls hl
  have hown : s.vm.findClass RX7 = some m.cls := hown
  have hK := hE.1
  have hD := hD0
  have fl_9 : (Cond.fieldLink RX7 9 "ProvinceCardsModel" "m" "[I").before args s = true := hts _ (by decide +kernel)
  have i_RX7 : ∀ w ∈ wsX70, w ∈ wsX7_isEnvoy := by decide +kernel
  have hl : lv_has ls 2 [(0, .ref a0), (1, .int x1)] := hl
  suffices M0 : ∀ (locs : List Loc), va_S A s.heap s.heap locs → W p l e r_X7_isEnvoy s m args below meth c s.heap locs 0 0 (MQ below (pv_Ro (some (.int F))) args s 0 0 A) (F0 m 0 ls []) from M0 [] hS
  intro locs hS
  refine lv_iload_n (pc := 0) hx hb dX7_isEnvoy_0 rfl (lv_at hl 1 rfl) ?_
  refine lv_i2l (pc := 1) (v := x1.toInt64) hx hb dX7_isEnvoy_1 rfl ?_
  refine lv_iconst (pc := 2) (v := 0) hx hb dX7_isEnvoy_2 (by decide) ?_
  refine lv_aload_n (pc := 3) hx hb dX7_isEnvoy_3 rfl (lv_at hl 0 rfl) ?_
  refine va_get (pc := 4) (D := E.1) (ci := 5) (v := .ref a1) (C := RX7) (T := TX7) (N := 17) hx hb hts i_RX7 hown hK hP 0 rfl rfl 0 (Nat.le_of_ble_eq_true rfl) fl_9 (fun _ h9 => h9) rfl dX7_isEnvoy_4 ?_
  refine lv_iconst (pc := 7) (v := 2) hx hb dX7_isEnvoy_7 (by decide) ?_
  refine va_iald (pc := 8) (D := E.1) hx hb hK hP 1 0 rfl rfl (by decide : ¬ ((2 : Int32) < 0 ∨ 31 ≤ (2 : Int32).toNatClampNeg)) dX7_isEnvoy_8 ?_
  refine W.eq (g2 := F0 m 9 ls [.int (w.1 2), .int 0, .long x1.toInt64]) rfl ?_
  refine lv_iconst (pc := 9) (v := 1) hx hb dX7_isEnvoy_9 (by decide) ?_
  refine lv_isub (pc := 10) hx hb dX7_isEnvoy_10 ?_
  refine pv_sRO (pc := 11) (rest := []) (st1 := [.int (m_X7_in x1.toInt64 0 ((w.1 2) - 1))]) (ws := pv_wM E a0 a1 a2 a3 a4 a5 a6 a7 a8 a9 a10 w) [.long x1.toInt64, .int 0, .int ((w.1 2) - 1)] ⟨hx, hb, hml, hown, hts⟩ hE hA hS hP hD (c_X7_in l E x1.toInt64 0 ((w.1 2) - 1)) (va_cwS 3 hts gX7_isEnvoy_X7_in rfl rfl rfl (by decide +kernel) ⟨(Nat.le_of_ble_eq_true rfl), (Nat.le_of_ble_eq_true rfl)⟩) [] rfl rfl rfl hl.1 rfl rfl (Nat.le_of_ble_eq_true rfl) dX7_isEnvoy_11 ⟨Nat.zero_le _, Nat.zero_le _⟩ (fun locs hS => ?_)
  obtain ⟨h_1, hq⟩ := pv_gz_some hq
  exact pv_rzRO hx hb hr hlk hS (Option.some.inj hq) h_1.1 dX7_isEnvoy_14
def m_X7_it (x1 : Int32) (x2 : Int32) (w : pv_MT) : Option (Int32) :=
  pv_gd ((15 + (2 * x1)) + x2) 31 (some (w.1 ((15 + (2 * x1)) + x2).toNatClampNeg))
abbrev r_X7_it : Room := { frames := 0, cells := 0, slots := 0, locals := 0 }
set_option maxHeartbeats 4000000 in
set_option maxRecDepth 100000 in
theorem c_X7_it (l : Launch) (E : pv_E) (a0 a1 a2 a3 a4 a5 a6 a7 a8 a9 a10 : Nat) (x1 : Int32) (x2 : Int32) (w : pv_MT) (F : Int32) (hq : m_X7_it x1 x2 w = some F) : pv_RO l E yX7_it wsX7_it r_X7_it (pv_wM E a0 a1 a2 a3 a4 a5 a6 a7 a8 a9 a10 w) [.ref a0, .int x1, .int x2] (some (.int F)) := by
  intro sz
  refine pv_mk (by decide) rfl (Nat.le_of_ble_eq_true rfl) ?_
  intro p e s m args below meth c A hx hb hr hml hown hts hlk hAe hP hD0 hA hE hS ls hl
  have hown : s.vm.findClass RX7 = some m.cls := hown
  have hK := hE.1
  have hD := hD0
  have fl_9 : (Cond.fieldLink RX7 9 "ProvinceCardsModel" "m" "[I").before args s = true := hts _ (by decide +kernel)
  have i_RX7 : ∀ w ∈ wsX70, w ∈ wsX7_it := by decide +kernel
  have hl : lv_has ls 3 [(0, .ref a0), (1, .int x1), (2, .int x2)] := hl
  suffices M0 : ∀ (locs : List Loc), va_S A s.heap s.heap locs → W p l e r_X7_it s m args below meth c s.heap locs 0 0 (MQ below (pv_Ro (some (.int F))) args s 0 0 A) (F0 m 0 ls []) from M0 [] hS
  intro locs hS
  refine lv_aload_n (pc := 0) hx hb dX7_it_0 rfl (lv_at hl 0 rfl) ?_
  refine va_get (pc := 1) (D := E.1) (ci := 5) (v := .ref a1) (C := RX7) (T := TX7) (N := 17) hx hb hts i_RX7 hown hK hP 0 rfl rfl 0 (Nat.le_of_ble_eq_true rfl) fl_9 (fun _ h9 => h9) rfl dX7_it_1 ?_
  refine lv_bipush (pc := 4) (v := 15) hx hb dX7_it_4 (by decide) ?_
  refine lv_iconst (pc := 6) (v := 2) hx hb dX7_it_6 (by decide) ?_
  refine lv_iload_n (pc := 7) hx hb dX7_it_7 rfl (lv_at hl 1 rfl) ?_
  refine lv_imul (pc := 8) hx hb dX7_it_8 ?_
  refine lv_iadd (pc := 9) hx hb dX7_it_9 ?_
  refine lv_iload_n (pc := 10) hx hb dX7_it_10 rfl (lv_at hl 2 rfl) ?_
  refine lv_iadd (pc := 11) hx hb dX7_it_11 ?_
  obtain ⟨h_1, hq⟩ := pv_gd_some hq
  refine va_iald (pc := 12) (D := E.1) hx hb hK hP 1 0 rfl rfl h_1 dX7_it_12 ?_
  exact pv_riRO hx hb hr hlk hS (Option.some.inj hq) dX7_it_13
def m_X7_mix (x1 : Int32) (w : pv_MT) : Option (Int32 × pv_MT) :=
  if (m_X7_isMix x1) = 0 then (Option.bind (m_X7_finds (-1000000001) w) fun u_2 => (some (u_2.1, u_2.2))) else (Option.bind (m_X7_becomes 1 x1 w) fun u_3 => (some (u_3.1, u_3.2)))
abbrev r_X7_mix : Room := { frames := 2, cells := 0, slots := 0, locals := 43 }
set_option maxHeartbeats 4000000 in
set_option maxRecDepth 100000 in
theorem c_X7_mix (l : Launch) (E : pv_E) (a0 a1 a2 a3 a4 a5 a6 a7 a8 a9 a10 : Nat) (x1 : Int32) (w0 : pv_MT) (F : Int32 × pv_MT) (hq : m_X7_mix x1 w0 = some F) : pv_RW l E yX7_mix wsX7_mix r_X7_mix (pv_wM E a0 a1 a2 a3 a4 a5 a6 a7 a8 a9 a10 w0) [.ref a0, .int x1] (some (.int F.1)) (pv_wM E a0 a1 a2 a3 a4 a5 a6 a7 a8 a9 a10 F.2) := by
  intro sz
  refine pv_mk (by decide) rfl (Nat.le_of_ble_eq_true rfl) ?_
  intro p e s m args below meth c A hx hb hr hml hown hts hlk hAe hP hD0 hA hE hS ls hl
  have hown : s.vm.findClass RX7 = some m.cls := hown
  have hK := hE.1
  have hD : ∀ w : pv_MT, va_D A (pv_wM E a0 a1 a2 a3 a4 a5 a6 a7 a8 a9 a10 w) := fun w => pv_Dm (ws := pv_wM E a0 a1 a2 a3 a4 a5 a6 a7 a8 a9 a10 w0) (ws' := pv_wM E a0 a1 a2 a3 a4 a5 a6 a7 a8 a9 a10 w) rfl hD0
  have hP : va_P E.1 vwCl (pv_wM E a0 a1 a2 a3 a4 a5 a6 a7 a8 a9 a10 w0) s.heap := hP
  have lc_41 : (Cond.constant RX7 41 (-1000000001)).before args s = true := hts _ (by decide +kernel)
  have hl : lv_has ls 2 [(0, .ref a0), (1, .int x1)] := hl
  suffices M0 : ∀ (H : Heap) (locs : List Loc), va_P E.1 vwCl (pv_wM E a0 a1 a2 a3 a4 a5 a6 a7 a8 a9 a10 w0) H → va_S A s.heap H locs → W p l e r_X7_mix s m args below meth c H locs 0 0 (MQ below (pv_Rw E (pv_wM E a0 a1 a2 a3 a4 a5 a6 a7 a8 a9 a10 w0) sz (some (.int F.1)) ((fun w : pv_MT => pv_wM E a0 a1 a2 a3 a4 a5 a6 a7 a8 a9 a10 w) F.2)) args s 0 0 A) (F0 m 0 ls []) from M0 s.heap [] hP hS
  intro H locs hP hS
  refine lv_iload_n (pc := 0) hx hb dX7_mix_0 rfl (lv_at hl 1 rfl) ?_
  refine pv_sRO (pc := 1) (rest := []) (st1 := [.int (m_X7_isMix x1)]) (ws := pv_wM E a0 a1 a2 a3 a4 a5 a6 a7 a8 a9 a10 w0) [.int x1] ⟨hx, hb, hml, hown, hts⟩ hE hA hS hP (hD w0) (c_X7_isMix l E x1) (va_cwS 1 hts gX7_mix_X7_isMix rfl rfl rfl (by decide +kernel) ⟨(Nat.le_of_ble_eq_true rfl), (Nat.le_of_ble_eq_true rfl)⟩) [] rfl rfl rfl hl.1 rfl rfl (Nat.le_of_ble_eq_true rfl) dX7_mix_1 ⟨Nat.zero_le _, Nat.zero_le _⟩ (fun locs hS => ?_)
  refine lv_if_eq (pc := 4) (tgt := 16) hx hb dX7_mix_4 (by decide) (fun c_1 => ?_) (fun c_1 => ?_)
  · have hq := pv_pos c_1 hq
    refine lv_aload_n (pc := 16) hx hb dX7_mix_16 rfl (lv_at hl 0 rfl) ?_
    refine lv_ldc (pc := 17) hx hb hown lc_41 dX7_mix_17 ?_
    obtain ⟨u_2, hu_2, hq⟩ := pv_bind hq
    refine pv_vRWf (pc := 19) (rest := []) (st1 := [.int u_2.1]) (ws := pv_wM E a0 a1 a2 a3 a4 a5 a6 a7 a8 a9 a10 w0) [.int (-1000000001)] ⟨hx, hb, hml, hown, hts⟩ hE hA hS hP (hD w0) (c_X7_finds l E a0 a1 a2 a3 a4 a5 a6 a7 a8 a9 a10 (-1000000001) w0 u_2 hu_2) (cwV 1 hts gX7_mix_X7_finds rfl rfl rfl (by decide +kernel) ⟨(Nat.le_of_ble_eq_true rfl), (Nat.le_of_ble_eq_true rfl)⟩) (va_recv hK hP (ci := 5) (q0 := 0) rfl rfl) rfl hl.1 rfl rfl (Nat.le_of_ble_eq_true rfl) dX7_mix_19 ⟨Nat.zero_le _, Nat.zero_le _⟩ (fun H locs hP hS => ?_)
    have hP : va_P E.1 vwCl (pv_wM E a0 a1 a2 a3 a4 a5 a6 a7 a8 a9 a10 u_2.2) H := hP
    exact pv_riRW (w := fun w : pv_MT => pv_wM E a0 a1 a2 a3 a4 a5 a6 a7 a8 a9 a10 w) hx hb hr hlk hAe hS hP (Option.some.inj hq) dX7_mix_22
  · have hq := pv_neg c_1 hq
    refine lv_aload_n (pc := 7) hx hb dX7_mix_7 rfl (lv_at hl 0 rfl) ?_
    refine lv_iconst (pc := 8) (v := 1) hx hb dX7_mix_8 (by decide) ?_
    refine lv_iload_n (pc := 9) hx hb dX7_mix_9 rfl (lv_at hl 1 rfl) ?_
    obtain ⟨u_3, hu_3, hq⟩ := pv_bind hq
    refine pv_vRWf (pc := 10) (rest := []) (st1 := [.int u_3.1]) (ws := pv_wM E a0 a1 a2 a3 a4 a5 a6 a7 a8 a9 a10 w0) [.int 1, .int x1] ⟨hx, hb, hml, hown, hts⟩ hE hA hS hP (hD w0) (c_X7_becomes l E a0 a1 a2 a3 a4 a5 a6 a7 a8 a9 a10 1 x1 w0 u_3 hu_3) (cwV 2 hts gX7_mix_X7_becomes rfl rfl rfl (by decide +kernel) ⟨(Nat.le_of_ble_eq_true rfl), (Nat.le_of_ble_eq_true rfl)⟩) (va_recv hK hP (ci := 5) (q0 := 0) rfl rfl) rfl hl.1 rfl rfl (Nat.le_of_ble_eq_true rfl) dX7_mix_10 ⟨Nat.zero_le _, Nat.zero_le _⟩ (fun H locs hP hS => ?_)
    have hP : va_P E.1 vwCl (pv_wM E a0 a1 a2 a3 a4 a5 a6 a7 a8 a9 a10 u_3.2) H := hP
    refine lv_goto (pc := 13) (tgt := 22) hx hb dX7_mix_13 (by decide) ?_
    exact pv_riRW (w := fun w : pv_MT => pv_wM E a0 a1 a2 a3 a4 a5 a6 a7 a8 a9 a10 w) hx hb hr hlk hAe hS hP (Option.some.inj hq) dX7_mix_22
def m_X7_province_29  (w : pv_MT) : Option (Int32 × pv_MT) :=
  Option.bind (m_X7_finds (-1000000001) w) fun u_3 => (some (u_3.1, u_3.2))
def m_X7_province (x1 : Int32) (x2 : Int32) (w : pv_MT) : Option (Int32 × pv_MT) :=
  Option.bind (m_X7_isLand x1) fun u_1 => (if u_1 = 0 then (m_X7_province_29 w) else (if (m_X7_in x2.toInt64 (-1) 1) = 0 then (m_X7_province_29 w) else (Option.bind (m_X7_becomes (7 + x1) x2 w) fun u_5 => (some (u_5.1, u_5.2)))))
abbrev r_X7_province : Room := { frames := 2, cells := 0, slots := 0, locals := 43 }
set_option maxHeartbeats 4000000 in
set_option maxRecDepth 100000 in
theorem c_X7_province (l : Launch) (E : pv_E) (a0 a1 a2 a3 a4 a5 a6 a7 a8 a9 a10 : Nat) (x1 : Int32) (x2 : Int32) (w0 : pv_MT) (F : Int32 × pv_MT) (hq : m_X7_province x1 x2 w0 = some F) : pv_RW l E yX7_province wsX7_province r_X7_province (pv_wM E a0 a1 a2 a3 a4 a5 a6 a7 a8 a9 a10 w0) [.ref a0, .int x1, .int x2] (some (.int F.1)) (pv_wM E a0 a1 a2 a3 a4 a5 a6 a7 a8 a9 a10 F.2) := by
  intro sz
  refine pv_mk (by decide) rfl (Nat.le_of_ble_eq_true rfl) ?_
  intro p e s m args below meth c A hx hb hr hml hown hts hlk hAe hP hD0 hA hE hS ls hl
  have hown : s.vm.findClass RX7 = some m.cls := hown
  have hK := hE.1
  have hD : ∀ w : pv_MT, va_D A (pv_wM E a0 a1 a2 a3 a4 a5 a6 a7 a8 a9 a10 w) := fun w => pv_Dm (ws := pv_wM E a0 a1 a2 a3 a4 a5 a6 a7 a8 a9 a10 w0) (ws' := pv_wM E a0 a1 a2 a3 a4 a5 a6 a7 a8 a9 a10 w) rfl hD0
  have hP : va_P E.1 vwCl (pv_wM E a0 a1 a2 a3 a4 a5 a6 a7 a8 a9 a10 w0) s.heap := hP
  have lc_41 : (Cond.constant RX7 41 (-1000000001)).before args s = true := hts _ (by decide +kernel)
  have hl : lv_has ls 3 [(0, .ref a0), (1, .int x1), (2, .int x2)] := hl
  have B_29 : ∀  (w : pv_MT) (H : Heap) (locs : List Loc) (ls : Array Slot), va_P E.1 vwCl (pv_wM E a0 a1 a2 a3 a4 a5 a6 a7 a8 a9 a10 w) H → va_S A s.heap H locs → lv_has ls 3 [(0, .ref a0)] → m_X7_province_29 w = some F → W p l e r_X7_province s m args below meth c H locs 0 0 (MQ below (pv_Rw E (pv_wM E a0 a1 a2 a3 a4 a5 a6 a7 a8 a9 a10 w0) sz (some (.int F.1)) ((fun w : pv_MT => pv_wM E a0 a1 a2 a3 a4 a5 a6 a7 a8 a9 a10 w) F.2)) args s 0 0 A) (F0 m 29 ls []) := by
    intro w H locs ls hP hS hl hq
    refine lv_aload_n (pc := 29) hx hb dX7_province_29 rfl (lv_at hl 0 rfl) ?_
    refine lv_ldc (pc := 30) hx hb hown lc_41 dX7_province_30 ?_
    obtain ⟨u_3, hu_3, hq⟩ := pv_bind hq
    refine pv_vRWf (pc := 32) (rest := []) (st1 := [.int u_3.1]) (ws := pv_wM E a0 a1 a2 a3 a4 a5 a6 a7 a8 a9 a10 w) [.int (-1000000001)] ⟨hx, hb, hml, hown, hts⟩ hE hA hS hP (hD w) (c_X7_finds l E a0 a1 a2 a3 a4 a5 a6 a7 a8 a9 a10 (-1000000001) w u_3 hu_3) (cwV 1 hts gX7_province_X7_finds rfl rfl rfl (by decide +kernel) ⟨(Nat.le_of_ble_eq_true rfl), (Nat.le_of_ble_eq_true rfl)⟩) (va_recv hK hP (ci := 5) (q0 := 0) rfl rfl) rfl hl.1 rfl rfl (Nat.le_of_ble_eq_true rfl) dX7_province_32 ⟨Nat.zero_le _, Nat.zero_le _⟩ (fun H locs hP hS => ?_)
    have hP : va_P E.1 vwCl (pv_wM E a0 a1 a2 a3 a4 a5 a6 a7 a8 a9 a10 u_3.2) H := hP
    exact pv_riRW (w := fun w : pv_MT => pv_wM E a0 a1 a2 a3 a4 a5 a6 a7 a8 a9 a10 w) hx hb hr hlk hAe hS hP (Option.some.inj hq) dX7_province_35
  suffices M0 : ∀ (H : Heap) (locs : List Loc), va_P E.1 vwCl (pv_wM E a0 a1 a2 a3 a4 a5 a6 a7 a8 a9 a10 w0) H → va_S A s.heap H locs → W p l e r_X7_province s m args below meth c H locs 0 0 (MQ below (pv_Rw E (pv_wM E a0 a1 a2 a3 a4 a5 a6 a7 a8 a9 a10 w0) sz (some (.int F.1)) ((fun w : pv_MT => pv_wM E a0 a1 a2 a3 a4 a5 a6 a7 a8 a9 a10 w) F.2)) args s 0 0 A) (F0 m 0 ls []) from M0 s.heap [] hP hS
  intro H locs hP hS
  refine lv_iload_n (pc := 0) hx hb dX7_province_0 rfl (lv_at hl 1 rfl) ?_
  obtain ⟨u_1, hu_1, hq⟩ := pv_bind hq
  refine pv_sRO (pc := 1) (rest := []) (st1 := [.int u_1]) (ws := pv_wM E a0 a1 a2 a3 a4 a5 a6 a7 a8 a9 a10 w0) [.int x1] ⟨hx, hb, hml, hown, hts⟩ hE hA hS hP (hD w0) (c_X7_isLand l E x1 u_1 hu_1) (va_cwS 1 hts gX7_province_X7_isLand rfl rfl rfl (by decide +kernel) ⟨(Nat.le_of_ble_eq_true rfl), (Nat.le_of_ble_eq_true rfl)⟩) [] rfl rfl rfl hl.1 rfl rfl (Nat.le_of_ble_eq_true rfl) dX7_province_1 ⟨Nat.zero_le _, Nat.zero_le _⟩ (fun locs hS => ?_)
  refine lv_if_eq (pc := 4) (tgt := 29) hx hb dX7_province_4 (by decide) (fun c_2 => ?_) (fun c_2 => ?_)
  · have hq := pv_pos c_2 hq
    exact B_29 w0 H locs ls hP hS (lv_sub hl [0] rfl) hq
  · have hq := pv_neg c_2 hq
    refine lv_iload_n (pc := 7) hx hb dX7_province_7 rfl (lv_at hl 2 rfl) ?_
    refine lv_i2l (pc := 8) (v := x2.toInt64) hx hb dX7_province_8 rfl ?_
    refine lv_iconst (pc := 9) (v := (-1)) hx hb dX7_province_9 (by decide) ?_
    refine lv_iconst (pc := 10) (v := 1) hx hb dX7_province_10 (by decide) ?_
    refine pv_sRO (pc := 11) (rest := []) (st1 := [.int (m_X7_in x2.toInt64 (-1) 1)]) (ws := pv_wM E a0 a1 a2 a3 a4 a5 a6 a7 a8 a9 a10 w0) [.long x2.toInt64, .int (-1), .int 1] ⟨hx, hb, hml, hown, hts⟩ hE hA hS hP (hD w0) (c_X7_in l E x2.toInt64 (-1) 1) (va_cwS 3 hts gX7_province_X7_in rfl rfl rfl (by decide +kernel) ⟨(Nat.le_of_ble_eq_true rfl), (Nat.le_of_ble_eq_true rfl)⟩) [] rfl rfl rfl hl.1 rfl rfl (Nat.le_of_ble_eq_true rfl) dX7_province_11 ⟨Nat.zero_le _, Nat.zero_le _⟩ (fun locs hS => ?_)
    refine lv_if_eq (pc := 14) (tgt := 29) hx hb dX7_province_14 (by decide) (fun c_4 => ?_) (fun c_4 => ?_)
    · have hq := pv_pos c_4 hq
      exact B_29 w0 H locs ls hP hS (lv_sub hl [0] rfl) hq
    · have hq := pv_neg c_4 hq
      refine lv_aload_n (pc := 17) hx hb dX7_province_17 rfl (lv_at hl 0 rfl) ?_
      refine lv_bipush (pc := 18) (v := 7) hx hb dX7_province_18 (by decide) ?_
      refine lv_iload_n (pc := 20) hx hb dX7_province_20 rfl (lv_at hl 1 rfl) ?_
      refine lv_iadd (pc := 21) hx hb dX7_province_21 ?_
      refine lv_iload_n (pc := 22) hx hb dX7_province_22 rfl (lv_at hl 2 rfl) ?_
      obtain ⟨u_5, hu_5, hq⟩ := pv_bind hq
      refine pv_vRWf (pc := 23) (rest := []) (st1 := [.int u_5.1]) (ws := pv_wM E a0 a1 a2 a3 a4 a5 a6 a7 a8 a9 a10 w0) [.int (7 + x1), .int x2] ⟨hx, hb, hml, hown, hts⟩ hE hA hS hP (hD w0) (c_X7_becomes l E a0 a1 a2 a3 a4 a5 a6 a7 a8 a9 a10 (7 + x1) x2 w0 u_5 hu_5) (cwV 2 hts gX7_province_X7_becomes rfl rfl rfl (by decide +kernel) ⟨(Nat.le_of_ble_eq_true rfl), (Nat.le_of_ble_eq_true rfl)⟩) (va_recv hK hP (ci := 5) (q0 := 0) rfl rfl) rfl hl.1 rfl rfl (Nat.le_of_ble_eq_true rfl) dX7_province_23 ⟨Nat.zero_le _, Nat.zero_le _⟩ (fun H locs hP hS => ?_)
      have hP : va_P E.1 vwCl (pv_wM E a0 a1 a2 a3 a4 a5 a6 a7 a8 a9 a10 u_5.2) H := hP
      refine lv_goto (pc := 26) (tgt := 35) hx hb dX7_province_26 (by decide) ?_
      exact pv_riRW (w := fun w : pv_MT => pv_wM E a0 a1 a2 a3 a4 a5 a6 a7 a8 a9 a10 w) hx hb hr hlk hAe hS hP (Option.some.inj hq) dX7_province_35
def m_X7_whose (x1 : Int32) (w : pv_MT) : Option (Int32 × pv_MT) :=
  Option.bind (m_X7_isLand x1) fun u_1 => (if u_1 = 0 then (Option.bind (m_X7_finds (-1000000001) w) fun u_3 => (some (u_3.1, u_3.2))) else (pv_gd (7 + x1) 31 (some ((w.1 (7 + x1).toNatClampNeg), w))))
abbrev r_X7_whose : Room := { frames := 2, cells := 0, slots := 0, locals := 43 }
set_option maxHeartbeats 4000000 in
set_option maxRecDepth 100000 in
theorem c_X7_whose (l : Launch) (E : pv_E) (a0 a1 a2 a3 a4 a5 a6 a7 a8 a9 a10 : Nat) (x1 : Int32) (w0 : pv_MT) (F : Int32 × pv_MT) (hq : m_X7_whose x1 w0 = some F) : pv_RW l E yX7_whose wsX7_whose r_X7_whose (pv_wM E a0 a1 a2 a3 a4 a5 a6 a7 a8 a9 a10 w0) [.ref a0, .int x1] (some (.int F.1)) (pv_wM E a0 a1 a2 a3 a4 a5 a6 a7 a8 a9 a10 F.2) := by
  intro sz
  refine pv_mk (by decide) rfl (Nat.le_of_ble_eq_true rfl) ?_
  intro p e s m args below meth c A hx hb hr hml hown hts hlk hAe hP hD0 hA hE hS ls hl
  have hown : s.vm.findClass RX7 = some m.cls := hown
  have hK := hE.1
  have hD : ∀ w : pv_MT, va_D A (pv_wM E a0 a1 a2 a3 a4 a5 a6 a7 a8 a9 a10 w) := fun w => pv_Dm (ws := pv_wM E a0 a1 a2 a3 a4 a5 a6 a7 a8 a9 a10 w0) (ws' := pv_wM E a0 a1 a2 a3 a4 a5 a6 a7 a8 a9 a10 w) rfl hD0
  have hP : va_P E.1 vwCl (pv_wM E a0 a1 a2 a3 a4 a5 a6 a7 a8 a9 a10 w0) s.heap := hP
  have lc_41 : (Cond.constant RX7 41 (-1000000001)).before args s = true := hts _ (by decide +kernel)
  have fl_9 : (Cond.fieldLink RX7 9 "ProvinceCardsModel" "m" "[I").before args s = true := hts _ (by decide +kernel)
  have i_RX7 : ∀ w ∈ wsX70, w ∈ wsX7_whose := by decide +kernel
  have hl : lv_has ls 2 [(0, .ref a0), (1, .int x1)] := hl
  suffices M0 : ∀ (H : Heap) (locs : List Loc), va_P E.1 vwCl (pv_wM E a0 a1 a2 a3 a4 a5 a6 a7 a8 a9 a10 w0) H → va_S A s.heap H locs → W p l e r_X7_whose s m args below meth c H locs 0 0 (MQ below (pv_Rw E (pv_wM E a0 a1 a2 a3 a4 a5 a6 a7 a8 a9 a10 w0) sz (some (.int F.1)) ((fun w : pv_MT => pv_wM E a0 a1 a2 a3 a4 a5 a6 a7 a8 a9 a10 w) F.2)) args s 0 0 A) (F0 m 0 ls []) from M0 s.heap [] hP hS
  intro H locs hP hS
  refine lv_iload_n (pc := 0) hx hb dX7_whose_0 rfl (lv_at hl 1 rfl) ?_
  obtain ⟨u_1, hu_1, hq⟩ := pv_bind hq
  refine pv_sRO (pc := 1) (rest := []) (st1 := [.int u_1]) (ws := pv_wM E a0 a1 a2 a3 a4 a5 a6 a7 a8 a9 a10 w0) [.int x1] ⟨hx, hb, hml, hown, hts⟩ hE hA hS hP (hD w0) (c_X7_isLand l E x1 u_1 hu_1) (va_cwS 1 hts gX7_whose_X7_isLand rfl rfl rfl (by decide +kernel) ⟨(Nat.le_of_ble_eq_true rfl), (Nat.le_of_ble_eq_true rfl)⟩) [] rfl rfl rfl hl.1 rfl rfl (Nat.le_of_ble_eq_true rfl) dX7_whose_1 ⟨Nat.zero_le _, Nat.zero_le _⟩ (fun locs hS => ?_)
  refine lv_if_eq (pc := 4) (tgt := 19) hx hb dX7_whose_4 (by decide) (fun c_2 => ?_) (fun c_2 => ?_)
  · have hq := pv_pos c_2 hq
    refine lv_aload_n (pc := 19) hx hb dX7_whose_19 rfl (lv_at hl 0 rfl) ?_
    refine lv_ldc (pc := 20) hx hb hown lc_41 dX7_whose_20 ?_
    obtain ⟨u_3, hu_3, hq⟩ := pv_bind hq
    refine pv_vRWf (pc := 22) (rest := []) (st1 := [.int u_3.1]) (ws := pv_wM E a0 a1 a2 a3 a4 a5 a6 a7 a8 a9 a10 w0) [.int (-1000000001)] ⟨hx, hb, hml, hown, hts⟩ hE hA hS hP (hD w0) (c_X7_finds l E a0 a1 a2 a3 a4 a5 a6 a7 a8 a9 a10 (-1000000001) w0 u_3 hu_3) (cwV 1 hts gX7_whose_X7_finds rfl rfl rfl (by decide +kernel) ⟨(Nat.le_of_ble_eq_true rfl), (Nat.le_of_ble_eq_true rfl)⟩) (va_recv hK hP (ci := 5) (q0 := 0) rfl rfl) rfl hl.1 rfl rfl (Nat.le_of_ble_eq_true rfl) dX7_whose_22 ⟨Nat.zero_le _, Nat.zero_le _⟩ (fun H locs hP hS => ?_)
    have hP : va_P E.1 vwCl (pv_wM E a0 a1 a2 a3 a4 a5 a6 a7 a8 a9 a10 u_3.2) H := hP
    exact pv_riRW (w := fun w : pv_MT => pv_wM E a0 a1 a2 a3 a4 a5 a6 a7 a8 a9 a10 w) hx hb hr hlk hAe hS hP (Option.some.inj hq) dX7_whose_25
  · have hq := pv_neg c_2 hq
    refine lv_aload_n (pc := 7) hx hb dX7_whose_7 rfl (lv_at hl 0 rfl) ?_
    refine va_get (pc := 8) (D := E.1) (ci := 5) (v := .ref a1) (C := RX7) (T := TX7) (N := 17) hx hb hts i_RX7 hown hK hP 0 rfl rfl 0 (Nat.le_of_ble_eq_true rfl) fl_9 (fun _ h9 => h9) rfl dX7_whose_8 ?_
    refine lv_bipush (pc := 11) (v := 7) hx hb dX7_whose_11 (by decide) ?_
    refine lv_iload_n (pc := 13) hx hb dX7_whose_13 rfl (lv_at hl 1 rfl) ?_
    refine lv_iadd (pc := 14) hx hb dX7_whose_14 ?_
    obtain ⟨h_4, hq⟩ := pv_gd_some hq
    refine va_iald (pc := 15) (D := E.1) hx hb hK hP 1 0 rfl rfl h_4 dX7_whose_15 ?_
    refine lv_goto (pc := 16) (tgt := 25) hx hb dX7_whose_16 (by decide) ?_
    exact pv_riRW (w := fun w : pv_MT => pv_wM E a0 a1 a2 a3 a4 a5 a6 a7 a8 a9 a10 w) hx hb hr hlk hAe hS hP (Option.some.inj hq) dX7_whose_25
def m_X7_treasury_29  (w : pv_MT) : Option (Int32 × pv_MT) :=
  Option.bind (m_X7_finds (-1000000001) w) fun u_3 => (some (u_3.1, u_3.2))
def m_X7_treasury (x1 : Int32) (x2 : Int32) (w : pv_MT) : Option (Int32 × pv_MT) :=
  Option.bind (m_X7_isState x1) fun u_1 => (if u_1 = 0 then (m_X7_treasury_29 w) else (if (m_X7_in x2.toInt64 0 99999) = 0 then (m_X7_treasury_29 w) else (Option.bind (m_X7_becomes (5 + x1) x2 w) fun u_5 => (some (u_5.1, u_5.2)))))
abbrev r_X7_treasury : Room := { frames := 2, cells := 0, slots := 0, locals := 43 }
set_option maxHeartbeats 4000000 in
set_option maxRecDepth 100000 in
theorem c_X7_treasury (l : Launch) (E : pv_E) (a0 a1 a2 a3 a4 a5 a6 a7 a8 a9 a10 : Nat) (x1 : Int32) (x2 : Int32) (w0 : pv_MT) (F : Int32 × pv_MT) (hq : m_X7_treasury x1 x2 w0 = some F) : pv_RW l E yX7_treasury wsX7_treasury r_X7_treasury (pv_wM E a0 a1 a2 a3 a4 a5 a6 a7 a8 a9 a10 w0) [.ref a0, .int x1, .int x2] (some (.int F.1)) (pv_wM E a0 a1 a2 a3 a4 a5 a6 a7 a8 a9 a10 F.2) := by
  intro sz
  refine pv_mk (by decide) rfl (Nat.le_of_ble_eq_true rfl) ?_
  intro p e s m args below meth c A hx hb hr hml hown hts hlk hAe hP hD0 hA hE hS ls hl
  have hown : s.vm.findClass RX7 = some m.cls := hown
  have hK := hE.1
  have hD : ∀ w : pv_MT, va_D A (pv_wM E a0 a1 a2 a3 a4 a5 a6 a7 a8 a9 a10 w) := fun w => pv_Dm (ws := pv_wM E a0 a1 a2 a3 a4 a5 a6 a7 a8 a9 a10 w0) (ws' := pv_wM E a0 a1 a2 a3 a4 a5 a6 a7 a8 a9 a10 w) rfl hD0
  have hP : va_P E.1 vwCl (pv_wM E a0 a1 a2 a3 a4 a5 a6 a7 a8 a9 a10 w0) s.heap := hP
  have lc_41 : (Cond.constant RX7 41 (-1000000001)).before args s = true := hts _ (by decide +kernel)
  have lc_65 : (Cond.constant RX7 65 (99999)).before args s = true := hts _ (by decide +kernel)
  have hl : lv_has ls 3 [(0, .ref a0), (1, .int x1), (2, .int x2)] := hl
  have B_29 : ∀  (w : pv_MT) (H : Heap) (locs : List Loc) (ls : Array Slot), va_P E.1 vwCl (pv_wM E a0 a1 a2 a3 a4 a5 a6 a7 a8 a9 a10 w) H → va_S A s.heap H locs → lv_has ls 3 [(0, .ref a0)] → m_X7_treasury_29 w = some F → W p l e r_X7_treasury s m args below meth c H locs 0 0 (MQ below (pv_Rw E (pv_wM E a0 a1 a2 a3 a4 a5 a6 a7 a8 a9 a10 w0) sz (some (.int F.1)) ((fun w : pv_MT => pv_wM E a0 a1 a2 a3 a4 a5 a6 a7 a8 a9 a10 w) F.2)) args s 0 0 A) (F0 m 29 ls []) := by
    intro w H locs ls hP hS hl hq
    refine lv_aload_n (pc := 29) hx hb dX7_treasury_29 rfl (lv_at hl 0 rfl) ?_
    refine lv_ldc (pc := 30) hx hb hown lc_41 dX7_treasury_30 ?_
    obtain ⟨u_3, hu_3, hq⟩ := pv_bind hq
    refine pv_vRWf (pc := 32) (rest := []) (st1 := [.int u_3.1]) (ws := pv_wM E a0 a1 a2 a3 a4 a5 a6 a7 a8 a9 a10 w) [.int (-1000000001)] ⟨hx, hb, hml, hown, hts⟩ hE hA hS hP (hD w) (c_X7_finds l E a0 a1 a2 a3 a4 a5 a6 a7 a8 a9 a10 (-1000000001) w u_3 hu_3) (cwV 1 hts gX7_treasury_X7_finds rfl rfl rfl (by decide +kernel) ⟨(Nat.le_of_ble_eq_true rfl), (Nat.le_of_ble_eq_true rfl)⟩) (va_recv hK hP (ci := 5) (q0 := 0) rfl rfl) rfl hl.1 rfl rfl (Nat.le_of_ble_eq_true rfl) dX7_treasury_32 ⟨Nat.zero_le _, Nat.zero_le _⟩ (fun H locs hP hS => ?_)
    have hP : va_P E.1 vwCl (pv_wM E a0 a1 a2 a3 a4 a5 a6 a7 a8 a9 a10 u_3.2) H := hP
    exact pv_riRW (w := fun w : pv_MT => pv_wM E a0 a1 a2 a3 a4 a5 a6 a7 a8 a9 a10 w) hx hb hr hlk hAe hS hP (Option.some.inj hq) dX7_treasury_35
  suffices M0 : ∀ (H : Heap) (locs : List Loc), va_P E.1 vwCl (pv_wM E a0 a1 a2 a3 a4 a5 a6 a7 a8 a9 a10 w0) H → va_S A s.heap H locs → W p l e r_X7_treasury s m args below meth c H locs 0 0 (MQ below (pv_Rw E (pv_wM E a0 a1 a2 a3 a4 a5 a6 a7 a8 a9 a10 w0) sz (some (.int F.1)) ((fun w : pv_MT => pv_wM E a0 a1 a2 a3 a4 a5 a6 a7 a8 a9 a10 w) F.2)) args s 0 0 A) (F0 m 0 ls []) from M0 s.heap [] hP hS
  intro H locs hP hS
  refine lv_iload_n (pc := 0) hx hb dX7_treasury_0 rfl (lv_at hl 1 rfl) ?_
  obtain ⟨u_1, hu_1, hq⟩ := pv_bind hq
  refine pv_sRO (pc := 1) (rest := []) (st1 := [.int u_1]) (ws := pv_wM E a0 a1 a2 a3 a4 a5 a6 a7 a8 a9 a10 w0) [.int x1] ⟨hx, hb, hml, hown, hts⟩ hE hA hS hP (hD w0) (c_X7_isState l E x1 u_1 hu_1) (va_cwS 1 hts gX7_treasury_X7_isState rfl rfl rfl (by decide +kernel) ⟨(Nat.le_of_ble_eq_true rfl), (Nat.le_of_ble_eq_true rfl)⟩) [] rfl rfl rfl hl.1 rfl rfl (Nat.le_of_ble_eq_true rfl) dX7_treasury_1 ⟨Nat.zero_le _, Nat.zero_le _⟩ (fun locs hS => ?_)
  refine lv_if_eq (pc := 4) (tgt := 29) hx hb dX7_treasury_4 (by decide) (fun c_2 => ?_) (fun c_2 => ?_)
  · have hq := pv_pos c_2 hq
    exact B_29 w0 H locs ls hP hS (lv_sub hl [0] rfl) hq
  · have hq := pv_neg c_2 hq
    refine lv_iload_n (pc := 7) hx hb dX7_treasury_7 rfl (lv_at hl 2 rfl) ?_
    refine lv_i2l (pc := 8) (v := x2.toInt64) hx hb dX7_treasury_8 rfl ?_
    refine lv_iconst (pc := 9) (v := 0) hx hb dX7_treasury_9 (by decide) ?_
    refine lv_ldc (pc := 10) hx hb hown lc_65 dX7_treasury_10 ?_
    refine pv_sRO (pc := 12) (rest := []) (st1 := [.int (m_X7_in x2.toInt64 0 99999)]) (ws := pv_wM E a0 a1 a2 a3 a4 a5 a6 a7 a8 a9 a10 w0) [.long x2.toInt64, .int 0, .int 99999] ⟨hx, hb, hml, hown, hts⟩ hE hA hS hP (hD w0) (c_X7_in l E x2.toInt64 0 99999) (va_cwS 3 hts gX7_treasury_X7_in rfl rfl rfl (by decide +kernel) ⟨(Nat.le_of_ble_eq_true rfl), (Nat.le_of_ble_eq_true rfl)⟩) [] rfl rfl rfl hl.1 rfl rfl (Nat.le_of_ble_eq_true rfl) dX7_treasury_12 ⟨Nat.zero_le _, Nat.zero_le _⟩ (fun locs hS => ?_)
    refine lv_if_eq (pc := 15) (tgt := 29) hx hb dX7_treasury_15 (by decide) (fun c_4 => ?_) (fun c_4 => ?_)
    · have hq := pv_pos c_4 hq
      exact B_29 w0 H locs ls hP hS (lv_sub hl [0] rfl) hq
    · have hq := pv_neg c_4 hq
      refine lv_aload_n (pc := 18) hx hb dX7_treasury_18 rfl (lv_at hl 0 rfl) ?_
      refine lv_iconst (pc := 19) (v := 5) hx hb dX7_treasury_19 (by decide) ?_
      refine lv_iload_n (pc := 20) hx hb dX7_treasury_20 rfl (lv_at hl 1 rfl) ?_
      refine lv_iadd (pc := 21) hx hb dX7_treasury_21 ?_
      refine lv_iload_n (pc := 22) hx hb dX7_treasury_22 rfl (lv_at hl 2 rfl) ?_
      obtain ⟨u_5, hu_5, hq⟩ := pv_bind hq
      refine pv_vRWf (pc := 23) (rest := []) (st1 := [.int u_5.1]) (ws := pv_wM E a0 a1 a2 a3 a4 a5 a6 a7 a8 a9 a10 w0) [.int (5 + x1), .int x2] ⟨hx, hb, hml, hown, hts⟩ hE hA hS hP (hD w0) (c_X7_becomes l E a0 a1 a2 a3 a4 a5 a6 a7 a8 a9 a10 (5 + x1) x2 w0 u_5 hu_5) (cwV 2 hts gX7_treasury_X7_becomes rfl rfl rfl (by decide +kernel) ⟨(Nat.le_of_ble_eq_true rfl), (Nat.le_of_ble_eq_true rfl)⟩) (va_recv hK hP (ci := 5) (q0 := 0) rfl rfl) rfl hl.1 rfl rfl (Nat.le_of_ble_eq_true rfl) dX7_treasury_23 ⟨Nat.zero_le _, Nat.zero_le _⟩ (fun H locs hP hS => ?_)
      have hP : va_P E.1 vwCl (pv_wM E a0 a1 a2 a3 a4 a5 a6 a7 a8 a9 a10 u_5.2) H := hP
      refine lv_goto (pc := 26) (tgt := 35) hx hb dX7_treasury_26 (by decide) ?_
      exact pv_riRW (w := fun w : pv_MT => pv_wM E a0 a1 a2 a3 a4 a5 a6 a7 a8 a9 a10 w) hx hb hr hlk hAe hS hP (Option.some.inj hq) dX7_treasury_35
def m_X7_now (x1 : Int32) (w : pv_MT) : Option (Int32 × pv_MT) :=
  if x1 = 0 then (pv_gd (0 + x1) 31 (some ((w.1 (0 + x1).toNatClampNeg), w))) else if x1 = 1 then (pv_gd (0 + x1) 31 (some ((w.1 (0 + x1).toNatClampNeg), w))) else if x1 = 2 then (some ((pv_rem (w.1 0) 4), w)) else if x1 = 3 then (some ((pv_rem (w.1 0) 8), w)) else if x1 = 4 then (pv_gd ((3 + x1) - 4) 31 (some ((w.1 ((3 + x1) - 4).toNatClampNeg), w))) else if x1 = 5 then (pv_gd ((3 + x1) - 4) 31 (some ((w.1 ((3 + x1) - 4).toNatClampNeg), w))) else if x1 = 6 then (pv_gd ((3 + x1) - 4) 31 (some ((w.1 ((3 + x1) - 4).toNatClampNeg), w))) else if x1 = 7 then (pv_gd ((3 + x1) - 4) 31 (some ((w.1 ((3 + x1) - 4).toNatClampNeg), w))) else (Option.bind (m_X7_finds (-1000000001) w) fun u_15 => (some (u_15.1, u_15.2)))
abbrev r_X7_now : Room := { frames := 1, cells := 0, slots := 0, locals := 21 }
set_option maxHeartbeats 4000000 in
set_option maxRecDepth 100000 in
theorem c_X7_now (l : Launch) (E : pv_E) (a0 a1 a2 a3 a4 a5 a6 a7 a8 a9 a10 : Nat) (x1 : Int32) (w0 : pv_MT) (F : Int32 × pv_MT) (hq : m_X7_now x1 w0 = some F) : pv_RW l E yX7_now wsX7_now r_X7_now (pv_wM E a0 a1 a2 a3 a4 a5 a6 a7 a8 a9 a10 w0) [.ref a0, .int x1] (some (.int F.1)) (pv_wM E a0 a1 a2 a3 a4 a5 a6 a7 a8 a9 a10 F.2) := by
  intro sz
  refine pv_mk (by decide) rfl (Nat.le_of_ble_eq_true rfl) ?_
  intro p e s m args below meth c A hx hb hr hml hown hts hlk hAe hP hD0 hA hE hS ls hl
  have hown : s.vm.findClass RX7 = some m.cls := hown
  have hK := hE.1
  have hD : ∀ w : pv_MT, va_D A (pv_wM E a0 a1 a2 a3 a4 a5 a6 a7 a8 a9 a10 w) := fun w => pv_Dm (ws := pv_wM E a0 a1 a2 a3 a4 a5 a6 a7 a8 a9 a10 w0) (ws' := pv_wM E a0 a1 a2 a3 a4 a5 a6 a7 a8 a9 a10 w) rfl hD0
  have hP : va_P E.1 vwCl (pv_wM E a0 a1 a2 a3 a4 a5 a6 a7 a8 a9 a10 w0) s.heap := hP
  have fl_9 : (Cond.fieldLink RX7 9 "ProvinceCardsModel" "m" "[I").before args s = true := hts _ (by decide +kernel)
  have lc_41 : (Cond.constant RX7 41 (-1000000001)).before args s = true := hts _ (by decide +kernel)
  have i_RX7 : ∀ w ∈ wsX70, w ∈ wsX7_now := by decide +kernel
  have hl : lv_has ls 2 [(0, .ref a0), (1, .int x1)] := hl
  suffices M0 : ∀ (H : Heap) (locs : List Loc), va_P E.1 vwCl (pv_wM E a0 a1 a2 a3 a4 a5 a6 a7 a8 a9 a10 w0) H → va_S A s.heap H locs → W p l e r_X7_now s m args below meth c H locs 0 0 (MQ below (pv_Rw E (pv_wM E a0 a1 a2 a3 a4 a5 a6 a7 a8 a9 a10 w0) sz (some (.int F.1)) ((fun w : pv_MT => pv_wM E a0 a1 a2 a3 a4 a5 a6 a7 a8 a9 a10 w) F.2)) args s 0 0 A) (F0 m 0 ls []) from M0 s.heap [] hP hS
  intro H locs hP hS
  refine lv_iload_n (pc := 0) hx hb dX7_now_0 rfl (lv_at hl 1 rfl) ?_
  by_cases c_1 : x1 = 0
  · have hq := pv_pos c_1 hq
    refine lv_tableIn (pc := 1) (tgt := 48) (off := 47) hx hb dX7_now_1 (by rw [c_1]; decide) (by rw [c_1]; decide) (by rw [c_1]; rfl) (by decide) ?_
    refine lv_aload_n (pc := 48) hx hb dX7_now_48 rfl (lv_at hl 0 rfl) ?_
    refine va_get (pc := 49) (D := E.1) (ci := 5) (v := .ref a1) (C := RX7) (T := TX7) (N := 17) hx hb hts i_RX7 hown hK hP 0 rfl rfl 0 (Nat.le_of_ble_eq_true rfl) fl_9 (fun _ h9 => h9) rfl dX7_now_49 ?_
    refine lv_iconst (pc := 52) (v := 0) hx hb dX7_now_52 (by decide) ?_
    refine lv_iload_n (pc := 53) hx hb dX7_now_53 rfl (lv_at hl 1 rfl) ?_
    refine lv_iadd (pc := 54) hx hb dX7_now_54 ?_
    obtain ⟨h_2, hq⟩ := pv_gd_some hq
    refine va_iald (pc := 55) (D := E.1) hx hb hK hP 1 0 rfl rfl h_2 dX7_now_55 ?_
    exact pv_riRW (w := fun w : pv_MT => pv_wM E a0 a1 a2 a3 a4 a5 a6 a7 a8 a9 a10 w) hx hb hr hlk hAe hS hP (Option.some.inj hq) dX7_now_56
  have hq := pv_neg c_1 hq
  by_cases c_3 : x1 = 1
  · have hq := pv_pos c_3 hq
    refine lv_tableIn (pc := 1) (tgt := 48) (off := 47) hx hb dX7_now_1 (by rw [c_3]; decide) (by rw [c_3]; decide) (by rw [c_3]; rfl) (by decide) ?_
    refine lv_aload_n (pc := 48) hx hb dX7_now_48 rfl (lv_at hl 0 rfl) ?_
    refine va_get (pc := 49) (D := E.1) (ci := 5) (v := .ref a1) (C := RX7) (T := TX7) (N := 17) hx hb hts i_RX7 hown hK hP 0 rfl rfl 0 (Nat.le_of_ble_eq_true rfl) fl_9 (fun _ h9 => h9) rfl dX7_now_49 ?_
    refine lv_iconst (pc := 52) (v := 0) hx hb dX7_now_52 (by decide) ?_
    refine lv_iload_n (pc := 53) hx hb dX7_now_53 rfl (lv_at hl 1 rfl) ?_
    refine lv_iadd (pc := 54) hx hb dX7_now_54 ?_
    obtain ⟨h_4, hq⟩ := pv_gd_some hq
    refine va_iald (pc := 55) (D := E.1) hx hb hK hP 1 0 rfl rfl h_4 dX7_now_55 ?_
    exact pv_riRW (w := fun w : pv_MT => pv_wM E a0 a1 a2 a3 a4 a5 a6 a7 a8 a9 a10 w) hx hb hr hlk hAe hS hP (Option.some.inj hq) dX7_now_56
  have hq := pv_neg c_3 hq
  by_cases c_5 : x1 = 2
  · have hq := pv_pos c_5 hq
    refine lv_tableIn (pc := 1) (tgt := 57) (off := 56) hx hb dX7_now_1 (by rw [c_5]; decide) (by rw [c_5]; decide) (by rw [c_5]; rfl) (by decide) ?_
    refine lv_aload_n (pc := 57) hx hb dX7_now_57 rfl (lv_at hl 0 rfl) ?_
    refine va_get (pc := 58) (D := E.1) (ci := 5) (v := .ref a1) (C := RX7) (T := TX7) (N := 17) hx hb hts i_RX7 hown hK hP 0 rfl rfl 0 (Nat.le_of_ble_eq_true rfl) fl_9 (fun _ h9 => h9) rfl dX7_now_58 ?_
    refine lv_iconst (pc := 61) (v := 0) hx hb dX7_now_61 (by decide) ?_
    refine va_iald (pc := 62) (D := E.1) hx hb hK hP 1 0 rfl rfl (by decide : ¬ ((0 : Int32) < 0 ∨ 31 ≤ (0 : Int32).toNatClampNeg)) dX7_now_62 ?_
    refine W.eq (g2 := F0 m 63 ls [.int (w0.1 0)]) rfl ?_
    refine lv_iconst (pc := 63) (v := 4) hx hb dX7_now_63 (by decide) ?_
    refine pv_irem (pc := 64) hx hb dX7_now_64 (by decide) ?_
    exact pv_riRW (w := fun w : pv_MT => pv_wM E a0 a1 a2 a3 a4 a5 a6 a7 a8 a9 a10 w) hx hb hr hlk hAe hS hP (Option.some.inj hq) dX7_now_65
  have hq := pv_neg c_5 hq
  by_cases c_6 : x1 = 3
  · have hq := pv_pos c_6 hq
    refine lv_tableIn (pc := 1) (tgt := 66) (off := 65) hx hb dX7_now_1 (by rw [c_6]; decide) (by rw [c_6]; decide) (by rw [c_6]; rfl) (by decide) ?_
    refine lv_aload_n (pc := 66) hx hb dX7_now_66 rfl (lv_at hl 0 rfl) ?_
    refine va_get (pc := 67) (D := E.1) (ci := 5) (v := .ref a1) (C := RX7) (T := TX7) (N := 17) hx hb hts i_RX7 hown hK hP 0 rfl rfl 0 (Nat.le_of_ble_eq_true rfl) fl_9 (fun _ h9 => h9) rfl dX7_now_67 ?_
    refine lv_iconst (pc := 70) (v := 0) hx hb dX7_now_70 (by decide) ?_
    refine va_iald (pc := 71) (D := E.1) hx hb hK hP 1 0 rfl rfl (by decide : ¬ ((0 : Int32) < 0 ∨ 31 ≤ (0 : Int32).toNatClampNeg)) dX7_now_71 ?_
    refine W.eq (g2 := F0 m 72 ls [.int (w0.1 0)]) rfl ?_
    refine lv_bipush (pc := 72) (v := 8) hx hb dX7_now_72 (by decide) ?_
    refine pv_irem (pc := 74) hx hb dX7_now_74 (by decide) ?_
    exact pv_riRW (w := fun w : pv_MT => pv_wM E a0 a1 a2 a3 a4 a5 a6 a7 a8 a9 a10 w) hx hb hr hlk hAe hS hP (Option.some.inj hq) dX7_now_75
  have hq := pv_neg c_6 hq
  by_cases c_7 : x1 = 4
  · have hq := pv_pos c_7 hq
    refine lv_tableIn (pc := 1) (tgt := 76) (off := 75) hx hb dX7_now_1 (by rw [c_7]; decide) (by rw [c_7]; decide) (by rw [c_7]; rfl) (by decide) ?_
    refine lv_aload_n (pc := 76) hx hb dX7_now_76 rfl (lv_at hl 0 rfl) ?_
    refine va_get (pc := 77) (D := E.1) (ci := 5) (v := .ref a1) (C := RX7) (T := TX7) (N := 17) hx hb hts i_RX7 hown hK hP 0 rfl rfl 0 (Nat.le_of_ble_eq_true rfl) fl_9 (fun _ h9 => h9) rfl dX7_now_77 ?_
    refine lv_iconst (pc := 80) (v := 3) hx hb dX7_now_80 (by decide) ?_
    refine lv_iload_n (pc := 81) hx hb dX7_now_81 rfl (lv_at hl 1 rfl) ?_
    refine lv_iadd (pc := 82) hx hb dX7_now_82 ?_
    refine lv_iconst (pc := 83) (v := 4) hx hb dX7_now_83 (by decide) ?_
    refine lv_isub (pc := 84) hx hb dX7_now_84 ?_
    obtain ⟨h_8, hq⟩ := pv_gd_some hq
    refine va_iald (pc := 85) (D := E.1) hx hb hK hP 1 0 rfl rfl h_8 dX7_now_85 ?_
    exact pv_riRW (w := fun w : pv_MT => pv_wM E a0 a1 a2 a3 a4 a5 a6 a7 a8 a9 a10 w) hx hb hr hlk hAe hS hP (Option.some.inj hq) dX7_now_86
  have hq := pv_neg c_7 hq
  by_cases c_9 : x1 = 5
  · have hq := pv_pos c_9 hq
    refine lv_tableIn (pc := 1) (tgt := 76) (off := 75) hx hb dX7_now_1 (by rw [c_9]; decide) (by rw [c_9]; decide) (by rw [c_9]; rfl) (by decide) ?_
    refine lv_aload_n (pc := 76) hx hb dX7_now_76 rfl (lv_at hl 0 rfl) ?_
    refine va_get (pc := 77) (D := E.1) (ci := 5) (v := .ref a1) (C := RX7) (T := TX7) (N := 17) hx hb hts i_RX7 hown hK hP 0 rfl rfl 0 (Nat.le_of_ble_eq_true rfl) fl_9 (fun _ h9 => h9) rfl dX7_now_77 ?_
    refine lv_iconst (pc := 80) (v := 3) hx hb dX7_now_80 (by decide) ?_
    refine lv_iload_n (pc := 81) hx hb dX7_now_81 rfl (lv_at hl 1 rfl) ?_
    refine lv_iadd (pc := 82) hx hb dX7_now_82 ?_
    refine lv_iconst (pc := 83) (v := 4) hx hb dX7_now_83 (by decide) ?_
    refine lv_isub (pc := 84) hx hb dX7_now_84 ?_
    obtain ⟨h_10, hq⟩ := pv_gd_some hq
    refine va_iald (pc := 85) (D := E.1) hx hb hK hP 1 0 rfl rfl h_10 dX7_now_85 ?_
    exact pv_riRW (w := fun w : pv_MT => pv_wM E a0 a1 a2 a3 a4 a5 a6 a7 a8 a9 a10 w) hx hb hr hlk hAe hS hP (Option.some.inj hq) dX7_now_86
  have hq := pv_neg c_9 hq
  by_cases c_11 : x1 = 6
  · have hq := pv_pos c_11 hq
    refine lv_tableIn (pc := 1) (tgt := 76) (off := 75) hx hb dX7_now_1 (by rw [c_11]; decide) (by rw [c_11]; decide) (by rw [c_11]; rfl) (by decide) ?_
    refine lv_aload_n (pc := 76) hx hb dX7_now_76 rfl (lv_at hl 0 rfl) ?_
    refine va_get (pc := 77) (D := E.1) (ci := 5) (v := .ref a1) (C := RX7) (T := TX7) (N := 17) hx hb hts i_RX7 hown hK hP 0 rfl rfl 0 (Nat.le_of_ble_eq_true rfl) fl_9 (fun _ h9 => h9) rfl dX7_now_77 ?_
    refine lv_iconst (pc := 80) (v := 3) hx hb dX7_now_80 (by decide) ?_
    refine lv_iload_n (pc := 81) hx hb dX7_now_81 rfl (lv_at hl 1 rfl) ?_
    refine lv_iadd (pc := 82) hx hb dX7_now_82 ?_
    refine lv_iconst (pc := 83) (v := 4) hx hb dX7_now_83 (by decide) ?_
    refine lv_isub (pc := 84) hx hb dX7_now_84 ?_
    obtain ⟨h_12, hq⟩ := pv_gd_some hq
    refine va_iald (pc := 85) (D := E.1) hx hb hK hP 1 0 rfl rfl h_12 dX7_now_85 ?_
    exact pv_riRW (w := fun w : pv_MT => pv_wM E a0 a1 a2 a3 a4 a5 a6 a7 a8 a9 a10 w) hx hb hr hlk hAe hS hP (Option.some.inj hq) dX7_now_86
  have hq := pv_neg c_11 hq
  by_cases c_13 : x1 = 7
  · have hq := pv_pos c_13 hq
    refine lv_tableIn (pc := 1) (tgt := 76) (off := 75) hx hb dX7_now_1 (by rw [c_13]; decide) (by rw [c_13]; decide) (by rw [c_13]; rfl) (by decide) ?_
    refine lv_aload_n (pc := 76) hx hb dX7_now_76 rfl (lv_at hl 0 rfl) ?_
    refine va_get (pc := 77) (D := E.1) (ci := 5) (v := .ref a1) (C := RX7) (T := TX7) (N := 17) hx hb hts i_RX7 hown hK hP 0 rfl rfl 0 (Nat.le_of_ble_eq_true rfl) fl_9 (fun _ h9 => h9) rfl dX7_now_77 ?_
    refine lv_iconst (pc := 80) (v := 3) hx hb dX7_now_80 (by decide) ?_
    refine lv_iload_n (pc := 81) hx hb dX7_now_81 rfl (lv_at hl 1 rfl) ?_
    refine lv_iadd (pc := 82) hx hb dX7_now_82 ?_
    refine lv_iconst (pc := 83) (v := 4) hx hb dX7_now_83 (by decide) ?_
    refine lv_isub (pc := 84) hx hb dX7_now_84 ?_
    obtain ⟨h_14, hq⟩ := pv_gd_some hq
    refine va_iald (pc := 85) (D := E.1) hx hb hK hP 1 0 rfl rfl h_14 dX7_now_85 ?_
    exact pv_riRW (w := fun w : pv_MT => pv_wM E a0 a1 a2 a3 a4 a5 a6 a7 a8 a9 a10 w) hx hb hr hlk hAe hS hP (Option.some.inj hq) dX7_now_86
  have hq := pv_neg c_13 hq
  refine lv_tableOut (pc := 1) (tgt := 87) hx hb dX7_now_1 (pv_swr (x := x1) 0 7 (fun k h1 h2 => (fun e7 => Or.elim e7 (fun e8 e9 => c_1 ((e9.trans (congrArg Int32.ofInt e8)).trans (by decide))) (fun e7 => Or.elim e7 (fun e8 e9 => c_3 ((e9.trans (congrArg Int32.ofInt e8)).trans (by decide))) (fun e7 => Or.elim e7 (fun e8 e9 => c_5 ((e9.trans (congrArg Int32.ofInt e8)).trans (by decide))) (fun e7 => Or.elim e7 (fun e8 e9 => c_6 ((e9.trans (congrArg Int32.ofInt e8)).trans (by decide))) (fun e7 => Or.elim e7 (fun e8 e9 => c_7 ((e9.trans (congrArg Int32.ofInt e8)).trans (by decide))) (fun e7 => Or.elim e7 (fun e8 e9 => c_9 ((e9.trans (congrArg Int32.ofInt e8)).trans (by decide))) (fun e7 => Or.elim e7 (fun e8 e9 => c_11 ((e9.trans (congrArg Int32.ofInt e8)).trans (by decide))) (fun e8 e9 => c_13 ((e9.trans (congrArg Int32.ofInt e8)).trans (by decide)))))))))) (show k = 0 ∨ k = 1 ∨ k = 2 ∨ k = 3 ∨ k = 4 ∨ k = 5 ∨ k = 6 ∨ k = 7 by omega))) (by decide) ?_
  refine lv_aload_n (pc := 87) hx hb dX7_now_87 rfl (lv_at hl 0 rfl) ?_
  refine lv_ldc (pc := 88) hx hb hown lc_41 dX7_now_88 ?_
  obtain ⟨u_15, hu_15, hq⟩ := pv_bind hq
  refine pv_vRWf (pc := 90) (rest := []) (st1 := [.int u_15.1]) (ws := pv_wM E a0 a1 a2 a3 a4 a5 a6 a7 a8 a9 a10 w0) [.int (-1000000001)] ⟨hx, hb, hml, hown, hts⟩ hE hA hS hP (hD w0) (c_X7_finds l E a0 a1 a2 a3 a4 a5 a6 a7 a8 a9 a10 (-1000000001) w0 u_15 hu_15) (cwV 1 hts gX7_now_X7_finds rfl rfl rfl (by decide +kernel) ⟨(Nat.le_of_ble_eq_true rfl), (Nat.le_of_ble_eq_true rfl)⟩) (va_recv hK hP (ci := 5) (q0 := 0) rfl rfl) rfl hl.1 rfl rfl (Nat.le_of_ble_eq_true rfl) dX7_now_90 ⟨Nat.zero_le _, Nat.zero_le _⟩ (fun H locs hP hS => ?_)
  have hP : va_P E.1 vwCl (pv_wM E a0 a1 a2 a3 a4 a5 a6 a7 a8 a9 a10 u_15.2) H := hP
  exact pv_riRW (w := fun w : pv_MT => pv_wM E a0 a1 a2 a3 a4 a5 a6 a7 a8 a9 a10 w) hx hb hr hlk hAe hS hP (Option.some.inj hq) dX7_now_93
def m_X7_dealt (x1 : Int32) (x2 : Int32) (w : pv_MT) : Option (Int32) :=
  some (pv_rem (((w.1 1) * x1) + x2) 32)
abbrev r_X7_dealt : Room := { frames := 0, cells := 0, slots := 0, locals := 0 }
set_option maxHeartbeats 4000000 in
set_option maxRecDepth 100000 in
theorem c_X7_dealt (l : Launch) (E : pv_E) (a0 a1 a2 a3 a4 a5 a6 a7 a8 a9 a10 : Nat) (x1 : Int32) (x2 : Int32) (w : pv_MT) (F : Int32) (hq : m_X7_dealt x1 x2 w = some F) : pv_RO l E yX7_dealt wsX7_dealt r_X7_dealt (pv_wM E a0 a1 a2 a3 a4 a5 a6 a7 a8 a9 a10 w) [.ref a0, .int x1, .int x2] (some (.int F)) := by
  intro sz
  refine pv_mk (by decide) rfl (Nat.le_of_ble_eq_true rfl) ?_
  intro p e s m args below meth c A hx hb hr hml hown hts hlk hAe hP hD0 hA hE hS ls hl
  have hown : s.vm.findClass RX7 = some m.cls := hown
  have hK := hE.1
  have hD := hD0
  have fl_9 : (Cond.fieldLink RX7 9 "ProvinceCardsModel" "m" "[I").before args s = true := hts _ (by decide +kernel)
  have i_RX7 : ∀ w ∈ wsX70, w ∈ wsX7_dealt := by decide +kernel
  have hl : lv_has ls 3 [(0, .ref a0), (1, .int x1), (2, .int x2)] := hl
  suffices M0 : ∀ (locs : List Loc), va_S A s.heap s.heap locs → W p l e r_X7_dealt s m args below meth c s.heap locs 0 0 (MQ below (pv_Ro (some (.int F))) args s 0 0 A) (F0 m 0 ls []) from M0 [] hS
  intro locs hS
  refine lv_aload_n (pc := 0) hx hb dX7_dealt_0 rfl (lv_at hl 0 rfl) ?_
  refine va_get (pc := 1) (D := E.1) (ci := 5) (v := .ref a1) (C := RX7) (T := TX7) (N := 17) hx hb hts i_RX7 hown hK hP 0 rfl rfl 0 (Nat.le_of_ble_eq_true rfl) fl_9 (fun _ h9 => h9) rfl dX7_dealt_1 ?_
  refine lv_iconst (pc := 4) (v := 1) hx hb dX7_dealt_4 (by decide) ?_
  refine va_iald (pc := 5) (D := E.1) hx hb hK hP 1 0 rfl rfl (by decide : ¬ ((1 : Int32) < 0 ∨ 31 ≤ (1 : Int32).toNatClampNeg)) dX7_dealt_5 ?_
  refine W.eq (g2 := F0 m 6 ls [.int (w.1 1)]) rfl ?_
  refine lv_iload_n (pc := 6) hx hb dX7_dealt_6 rfl (lv_at hl 1 rfl) ?_
  refine lv_imul (pc := 7) hx hb dX7_dealt_7 ?_
  refine lv_iload_n (pc := 8) hx hb dX7_dealt_8 rfl (lv_at hl 2 rfl) ?_
  refine lv_iadd (pc := 9) hx hb dX7_dealt_9 ?_
  refine lv_bipush (pc := 10) (v := 32) hx hb dX7_dealt_10 (by decide) ?_
  refine pv_irem (pc := 12) hx hb dX7_dealt_12 (by decide) ?_
  exact pv_riRO hx hb hr hlk hS (Option.some.inj hq) dX7_dealt_13
def m_X7_card_32  (w : pv_MT) : Option (Int32 × pv_MT) :=
  Option.bind (m_X7_finds (-1000000001) w) fun u_2 => (some (u_2.1, u_2.2))
def m_X7_card (x1 : Int32) (x2 : Int32) (w : pv_MT) : Option (Int32 × pv_MT) :=
  if (m_X7_in x1.toInt64 0 7) = 0 then (m_X7_card_32 w) else (if (m_X7_in x2.toInt64 0 9999) = 0 then (m_X7_card_32 w) else (Option.bind (m_X7_dealt x1 x2 w) fun u_4 => (some (u_4, w))))
abbrev r_X7_card : Room := { frames := 1, cells := 0, slots := 0, locals := 23 }
set_option maxHeartbeats 4000000 in
set_option maxRecDepth 100000 in
theorem c_X7_card (l : Launch) (E : pv_E) (a0 a1 a2 a3 a4 a5 a6 a7 a8 a9 a10 : Nat) (x1 : Int32) (x2 : Int32) (w0 : pv_MT) (F : Int32 × pv_MT) (hq : m_X7_card x1 x2 w0 = some F) : pv_RW l E yX7_card wsX7_card r_X7_card (pv_wM E a0 a1 a2 a3 a4 a5 a6 a7 a8 a9 a10 w0) [.ref a0, .int x1, .int x2] (some (.int F.1)) (pv_wM E a0 a1 a2 a3 a4 a5 a6 a7 a8 a9 a10 F.2) := by
  intro sz
  refine pv_mk (by decide) rfl (Nat.le_of_ble_eq_true rfl) ?_
  intro p e s m args below meth c A hx hb hr hml hown hts hlk hAe hP hD0 hA hE hS ls hl
  have hown : s.vm.findClass RX7 = some m.cls := hown
  have hK := hE.1
  have hD : ∀ w : pv_MT, va_D A (pv_wM E a0 a1 a2 a3 a4 a5 a6 a7 a8 a9 a10 w) := fun w => pv_Dm (ws := pv_wM E a0 a1 a2 a3 a4 a5 a6 a7 a8 a9 a10 w0) (ws' := pv_wM E a0 a1 a2 a3 a4 a5 a6 a7 a8 a9 a10 w) rfl hD0
  have hP : va_P E.1 vwCl (pv_wM E a0 a1 a2 a3 a4 a5 a6 a7 a8 a9 a10 w0) s.heap := hP
  have lc_41 : (Cond.constant RX7 41 (-1000000001)).before args s = true := hts _ (by decide +kernel)
  have hl : lv_has ls 3 [(0, .ref a0), (1, .int x1), (2, .int x2)] := hl
  have B_32 : ∀  (w : pv_MT) (H : Heap) (locs : List Loc) (ls : Array Slot), va_P E.1 vwCl (pv_wM E a0 a1 a2 a3 a4 a5 a6 a7 a8 a9 a10 w) H → va_S A s.heap H locs → lv_has ls 3 [(0, .ref a0)] → m_X7_card_32 w = some F → W p l e r_X7_card s m args below meth c H locs 0 0 (MQ below (pv_Rw E (pv_wM E a0 a1 a2 a3 a4 a5 a6 a7 a8 a9 a10 w0) sz (some (.int F.1)) ((fun w : pv_MT => pv_wM E a0 a1 a2 a3 a4 a5 a6 a7 a8 a9 a10 w) F.2)) args s 0 0 A) (F0 m 32 ls []) := by
    intro w H locs ls hP hS hl hq
    refine lv_aload_n (pc := 32) hx hb dX7_card_32 rfl (lv_at hl 0 rfl) ?_
    refine lv_ldc (pc := 33) hx hb hown lc_41 dX7_card_33 ?_
    obtain ⟨u_2, hu_2, hq⟩ := pv_bind hq
    refine pv_vRWf (pc := 35) (rest := []) (st1 := [.int u_2.1]) (ws := pv_wM E a0 a1 a2 a3 a4 a5 a6 a7 a8 a9 a10 w) [.int (-1000000001)] ⟨hx, hb, hml, hown, hts⟩ hE hA hS hP (hD w) (c_X7_finds l E a0 a1 a2 a3 a4 a5 a6 a7 a8 a9 a10 (-1000000001) w u_2 hu_2) (cwV 1 hts gX7_card_X7_finds rfl rfl rfl (by decide +kernel) ⟨(Nat.le_of_ble_eq_true rfl), (Nat.le_of_ble_eq_true rfl)⟩) (va_recv hK hP (ci := 5) (q0 := 0) rfl rfl) rfl hl.1 rfl rfl (Nat.le_of_ble_eq_true rfl) dX7_card_35 ⟨Nat.zero_le _, Nat.zero_le _⟩ (fun H locs hP hS => ?_)
    have hP : va_P E.1 vwCl (pv_wM E a0 a1 a2 a3 a4 a5 a6 a7 a8 a9 a10 u_2.2) H := hP
    exact pv_riRW (w := fun w : pv_MT => pv_wM E a0 a1 a2 a3 a4 a5 a6 a7 a8 a9 a10 w) hx hb hr hlk hAe hS hP (Option.some.inj hq) dX7_card_38
  suffices M0 : ∀ (H : Heap) (locs : List Loc), va_P E.1 vwCl (pv_wM E a0 a1 a2 a3 a4 a5 a6 a7 a8 a9 a10 w0) H → va_S A s.heap H locs → W p l e r_X7_card s m args below meth c H locs 0 0 (MQ below (pv_Rw E (pv_wM E a0 a1 a2 a3 a4 a5 a6 a7 a8 a9 a10 w0) sz (some (.int F.1)) ((fun w : pv_MT => pv_wM E a0 a1 a2 a3 a4 a5 a6 a7 a8 a9 a10 w) F.2)) args s 0 0 A) (F0 m 0 ls []) from M0 s.heap [] hP hS
  intro H locs hP hS
  refine lv_iload_n (pc := 0) hx hb dX7_card_0 rfl (lv_at hl 1 rfl) ?_
  refine lv_i2l (pc := 1) (v := x1.toInt64) hx hb dX7_card_1 rfl ?_
  refine lv_iconst (pc := 2) (v := 0) hx hb dX7_card_2 (by decide) ?_
  refine lv_bipush (pc := 3) (v := 7) hx hb dX7_card_3 (by decide) ?_
  refine pv_sRO (pc := 5) (rest := []) (st1 := [.int (m_X7_in x1.toInt64 0 7)]) (ws := pv_wM E a0 a1 a2 a3 a4 a5 a6 a7 a8 a9 a10 w0) [.long x1.toInt64, .int 0, .int 7] ⟨hx, hb, hml, hown, hts⟩ hE hA hS hP (hD w0) (c_X7_in l E x1.toInt64 0 7) (va_cwS 3 hts gX7_card_X7_in rfl rfl rfl (by decide +kernel) ⟨(Nat.le_of_ble_eq_true rfl), (Nat.le_of_ble_eq_true rfl)⟩) [] rfl rfl rfl hl.1 rfl rfl (Nat.le_of_ble_eq_true rfl) dX7_card_5 ⟨Nat.zero_le _, Nat.zero_le _⟩ (fun locs hS => ?_)
  refine lv_if_eq (pc := 8) (tgt := 32) hx hb dX7_card_8 (by decide) (fun c_1 => ?_) (fun c_1 => ?_)
  · have hq := pv_pos c_1 hq
    exact B_32 w0 H locs ls hP hS (lv_sub hl [0] rfl) hq
  · have hq := pv_neg c_1 hq
    refine lv_iload_n (pc := 11) hx hb dX7_card_11 rfl (lv_at hl 2 rfl) ?_
    refine lv_i2l (pc := 12) (v := x2.toInt64) hx hb dX7_card_12 rfl ?_
    refine lv_iconst (pc := 13) (v := 0) hx hb dX7_card_13 (by decide) ?_
    refine lv_sipush (pc := 14) (v := 9999) hx hb dX7_card_14 (by decide) ?_
    refine pv_sRO (pc := 17) (rest := []) (st1 := [.int (m_X7_in x2.toInt64 0 9999)]) (ws := pv_wM E a0 a1 a2 a3 a4 a5 a6 a7 a8 a9 a10 w0) [.long x2.toInt64, .int 0, .int 9999] ⟨hx, hb, hml, hown, hts⟩ hE hA hS hP (hD w0) (c_X7_in l E x2.toInt64 0 9999) (va_cwS 3 hts gX7_card_X7_in rfl rfl rfl (by decide +kernel) ⟨(Nat.le_of_ble_eq_true rfl), (Nat.le_of_ble_eq_true rfl)⟩) [] rfl rfl rfl hl.1 rfl rfl (Nat.le_of_ble_eq_true rfl) dX7_card_17 ⟨Nat.zero_le _, Nat.zero_le _⟩ (fun locs hS => ?_)
    refine lv_if_eq (pc := 20) (tgt := 32) hx hb dX7_card_20 (by decide) (fun c_3 => ?_) (fun c_3 => ?_)
    · have hq := pv_pos c_3 hq
      exact B_32 w0 H locs ls hP hS (lv_sub hl [0] rfl) hq
    · have hq := pv_neg c_3 hq
      refine lv_aload_n (pc := 23) hx hb dX7_card_23 rfl (lv_at hl 0 rfl) ?_
      refine lv_iload_n (pc := 24) hx hb dX7_card_24 rfl (lv_at hl 1 rfl) ?_
      refine lv_iload_n (pc := 25) hx hb dX7_card_25 rfl (lv_at hl 2 rfl) ?_
      obtain ⟨u_4, hu_4, hq⟩ := pv_bind hq
      refine pv_vROf (pc := 26) (rest := []) (st1 := [.int u_4]) (ws := pv_wM E a0 a1 a2 a3 a4 a5 a6 a7 a8 a9 a10 w0) [.int x1, .int x2] ⟨hx, hb, hml, hown, hts⟩ hE hA hS hP (hD w0) (c_X7_dealt l E a0 a1 a2 a3 a4 a5 a6 a7 a8 a9 a10 x1 x2 w0 u_4 hu_4) (cwV 2 hts gX7_card_X7_dealt rfl rfl rfl (by decide +kernel) ⟨(Nat.le_of_ble_eq_true rfl), (Nat.le_of_ble_eq_true rfl)⟩) (va_recv hK hP (ci := 5) (q0 := 0) rfl rfl) rfl hl.1 rfl rfl (Nat.le_of_ble_eq_true rfl) dX7_card_26 ⟨Nat.zero_le _, Nat.zero_le _⟩ (fun locs hS => ?_)
      refine lv_goto (pc := 29) (tgt := 38) hx hb dX7_card_29 (by decide) ?_
      exact pv_riRW (w := fun w : pv_MT => pv_wM E a0 a1 a2 a3 a4 a5 a6 a7 a8 a9 a10 w) hx hb hr hlk hAe hS hP (Option.some.inj hq) dX7_card_38
def m_X7_handOf_4 : Nat → Int32 → Int32 → Int32 → pv_MT → Option (Int32)
  | 0 => fun _ _ _ _ => none
  | n + 1 => fun x1 x2 x3 w =>
    if 4 ≤ x3 then (some x2) else (Option.bind (m_X7_dealt ((4 * x1) + x3) (w.1 0) w) fun u_2 => ((m_X7_handOf_4 n) x1 (x2 ||| ((1 : Int32) <<< (u_2 &&& 31))) (x3 + 1) w))
def m_X7_handOf (x1 : Int32) (w : pv_MT) : Option (Int32) :=
  m_X7_handOf_4 300 x1 0 0 w
abbrev r_X7_handOf : Room := { frames := 1, cells := 0, slots := 0, locals := 22 }
set_option maxHeartbeats 4000000 in
set_option maxRecDepth 100000 in
theorem c_X7_handOf (l : Launch) (E : pv_E) (a0 a1 a2 a3 a4 a5 a6 a7 a8 a9 a10 : Nat) (x1 : Int32) (w : pv_MT) (F : Int32) (hq : m_X7_handOf x1 w = some F) : pv_RO l E yX7_handOf wsX7_handOf r_X7_handOf (pv_wM E a0 a1 a2 a3 a4 a5 a6 a7 a8 a9 a10 w) [.ref a0, .int x1] (some (.int F)) := by
  intro sz
  refine pv_mk (by decide) rfl (Nat.le_of_ble_eq_true rfl) ?_
  intro p e s m args below meth c A hx hb hr hml hown hts hlk hAe hP hD0 hA hE hS ls hl
  have hown : s.vm.findClass RX7 = some m.cls := hown
  have hK := hE.1
  have hD := hD0
  have fl_9 : (Cond.fieldLink RX7 9 "ProvinceCardsModel" "m" "[I").before args s = true := hts _ (by decide +kernel)
  have i_RX7 : ∀ w ∈ wsX70, w ∈ wsX7_handOf := by decide +kernel
  have hl : lv_has ls 4 [(0, .ref a0), (1, .int x1)] := hl
  have L_4 : ∀ n : Nat, ∀ (x1 : Int32) (x2 : Int32) (x3 : Int32) (locs : List Loc) (ls : Array Slot), va_S A s.heap s.heap locs → lv_has ls 4 [(0, .ref a0), (1, .int x1), (2, .int x2), (3, .int x3)] → m_X7_handOf_4 n x1 x2 x3 w = some F → W p l e r_X7_handOf s m args below meth c s.heap locs 0 0 (MQ below (pv_Ro (some (.int F))) args s 0 0 A) (F0 m 4 ls []) := by
    intro n
    induction n with
    | zero =>
      intro x1 x2 x3 locs ls hS hl hq
      exact (pv_no hq).elim
    | succ n ih =>
      intro x1 x2 x3 locs ls hS hl hq
      refine lv_iload_n (pc := 4) hx hb dX7_handOf_4 rfl (lv_at hl 3 rfl) ?_
      refine lv_iconst (pc := 5) (v := 4) hx hb dX7_handOf_5 (by decide) ?_
      refine lv_icmp_ge (pc := 6) (tgt := 35) hx hb dX7_handOf_6 (by decide) (fun c_1 => ?_) (fun c_1 => ?_)
      · have hq := pv_pos c_1 hq
        refine lv_iload_n (pc := 35) hx hb dX7_handOf_35 rfl (lv_at hl 2 rfl) ?_
        exact pv_riRO hx hb hr hlk hS (Option.some.inj hq) dX7_handOf_36
      · have hq := pv_neg c_1 hq
        refine lv_iload_n (pc := 9) hx hb dX7_handOf_9 rfl (lv_at hl 2 rfl) ?_
        refine lv_iconst (pc := 10) (v := 1) hx hb dX7_handOf_10 (by decide) ?_
        refine lv_aload_n (pc := 11) hx hb dX7_handOf_11 rfl (lv_at hl 0 rfl) ?_
        refine lv_iconst (pc := 12) (v := 4) hx hb dX7_handOf_12 (by decide) ?_
        refine lv_iload_n (pc := 13) hx hb dX7_handOf_13 rfl (lv_at hl 1 rfl) ?_
        refine lv_imul (pc := 14) hx hb dX7_handOf_14 ?_
        refine lv_iload_n (pc := 15) hx hb dX7_handOf_15 rfl (lv_at hl 3 rfl) ?_
        refine lv_iadd (pc := 16) hx hb dX7_handOf_16 ?_
        refine lv_aload_n (pc := 17) hx hb dX7_handOf_17 rfl (lv_at hl 0 rfl) ?_
        refine va_get (pc := 18) (D := E.1) (ci := 5) (v := .ref a1) (C := RX7) (T := TX7) (N := 17) hx hb hts i_RX7 hown hK hP 0 rfl rfl 0 (Nat.le_of_ble_eq_true rfl) fl_9 (fun _ h9 => h9) rfl dX7_handOf_18 ?_
        refine lv_iconst (pc := 21) (v := 0) hx hb dX7_handOf_21 (by decide) ?_
        refine va_iald (pc := 22) (D := E.1) hx hb hK hP 1 0 rfl rfl (by decide : ¬ ((0 : Int32) < 0 ∨ 31 ≤ (0 : Int32).toNatClampNeg)) dX7_handOf_22 ?_
        refine W.eq (g2 := F0 m 23 ls [.int (w.1 0), .int ((4 * x1) + x3), .ref a0, .int 1, .int x2]) rfl ?_
        obtain ⟨u_2, hu_2, hq⟩ := pv_bind hq
        refine pv_vROf (pc := 23) (rest := [.int 1, .int x2]) (st1 := [.int u_2, .int 1, .int x2]) (ws := pv_wM E a0 a1 a2 a3 a4 a5 a6 a7 a8 a9 a10 w) [.int ((4 * x1) + x3), .int (w.1 0)] ⟨hx, hb, hml, hown, hts⟩ hE hA hS hP hD (c_X7_dealt l E a0 a1 a2 a3 a4 a5 a6 a7 a8 a9 a10 ((4 * x1) + x3) (w.1 0) w u_2 hu_2) (cwV 2 hts gX7_handOf_X7_dealt rfl rfl rfl (by decide +kernel) ⟨(Nat.le_of_ble_eq_true rfl), (Nat.le_of_ble_eq_true rfl)⟩) (va_recv hK hP (ci := 5) (q0 := 0) rfl rfl) rfl hl.1 rfl rfl (Nat.le_of_ble_eq_true rfl) dX7_handOf_23 ⟨Nat.zero_le _, Nat.zero_le _⟩ (fun locs hS => ?_)
        refine lv_ishl (pc := 26) hx hb dX7_handOf_26 ?_
        refine lv_ior (pc := 27) hx hb dX7_handOf_27 ?_
        refine lv_istore_n (pc := 28) (lv' := [(2, .int (x2 ||| ((1 : Int32) <<< (u_2 &&& 31)))), (0, .ref a0), (1, .int x1), (3, .int x3)]) hx hb dX7_handOf_28 rfl hl (Nat.le_of_ble_eq_true rfl) rfl (fun ls hl => ?_)
        refine lv_iinc (pc := 29) (v := (x3 + 1)) (lv' := [(3, .int (x3 + 1)), (2, .int (x2 ||| ((1 : Int32) <<< (u_2 &&& 31)))), (0, .ref a0), (1, .int x1)]) hx hb dX7_handOf_29 hl (k := 3) rfl rfl (Nat.le_of_ble_eq_true rfl) rfl (fun ls hl => ?_)
        refine lv_goto (pc := 32) (tgt := 4) hx hb dX7_handOf_32 (by decide) ?_
        exact ih x1 (x2 ||| ((1 : Int32) <<< (u_2 &&& 31))) (x3 + 1) locs ls hS (lv_sub hl [2, 3, 1, 0] rfl) hq
  suffices M0 : ∀ (locs : List Loc), va_S A s.heap s.heap locs → W p l e r_X7_handOf s m args below meth c s.heap locs 0 0 (MQ below (pv_Ro (some (.int F))) args s 0 0 A) (F0 m 0 ls []) from M0 [] hS
  intro locs hS
  refine lv_iconst (pc := 0) (v := 0) hx hb dX7_handOf_0 (by decide) ?_
  refine lv_istore_n (pc := 1) (lv' := [(2, .int 0), (0, .ref a0), (1, .int x1)]) hx hb dX7_handOf_1 rfl hl (Nat.le_of_ble_eq_true rfl) rfl (fun ls hl => ?_)
  refine lv_iconst (pc := 2) (v := 0) hx hb dX7_handOf_2 (by decide) ?_
  refine lv_istore_n (pc := 3) (lv' := [(3, .int 0), (2, .int 0), (0, .ref a0), (1, .int x1)]) hx hb dX7_handOf_3 rfl hl (Nat.le_of_ble_eq_true rfl) rfl (fun ls hl => ?_)
  exact L_4 300 x1 0 0 locs ls hS (lv_sub hl [2, 3, 1, 0] rfl) hq
def m_X7_isTrump (x1 : Int32) (w : pv_MT) : Option (Int32) :=
  if (x1 / 8) = (pv_rem (w.1 0) 4) then (some 1) else (some 0)
abbrev r_X7_isTrump : Room := { frames := 0, cells := 0, slots := 0, locals := 0 }
set_option maxHeartbeats 4000000 in
set_option maxRecDepth 100000 in
theorem c_X7_isTrump (l : Launch) (E : pv_E) (a0 a1 a2 a3 a4 a5 a6 a7 a8 a9 a10 : Nat) (x1 : Int32) (w : pv_MT) (F : Int32) (hq : m_X7_isTrump x1 w = some F) : pv_RO l E yX7_isTrump wsX7_isTrump r_X7_isTrump (pv_wM E a0 a1 a2 a3 a4 a5 a6 a7 a8 a9 a10 w) [.ref a0, .int x1] (some (.int F)) := by
  intro sz
  refine pv_mk (by decide) rfl (Nat.le_of_ble_eq_true rfl) ?_
  intro p e s m args below meth c A hx hb hr hml hown hts hlk hAe hP hD0 hA hE hS ls hl
  have hown : s.vm.findClass RX7 = some m.cls := hown
  have hK := hE.1
  have hD := hD0
  have fl_9 : (Cond.fieldLink RX7 9 "ProvinceCardsModel" "m" "[I").before args s = true := hts _ (by decide +kernel)
  have i_RX7 : ∀ w ∈ wsX70, w ∈ wsX7_isTrump := by decide +kernel
  have hl : lv_has ls 2 [(0, .ref a0), (1, .int x1)] := hl
  suffices M0 : ∀ (locs : List Loc), va_S A s.heap s.heap locs → W p l e r_X7_isTrump s m args below meth c s.heap locs 0 0 (MQ below (pv_Ro (some (.int F))) args s 0 0 A) (F0 m 0 ls []) from M0 [] hS
  intro locs hS
  refine lv_iload_n (pc := 0) hx hb dX7_isTrump_0 rfl (lv_at hl 1 rfl) ?_
  refine lv_bipush (pc := 1) (v := 8) hx hb dX7_isTrump_1 (by decide) ?_
  refine lv_idiv (pc := 3) hx hb dX7_isTrump_3 (by decide) ?_
  refine lv_aload_n (pc := 4) hx hb dX7_isTrump_4 rfl (lv_at hl 0 rfl) ?_
  refine va_get (pc := 5) (D := E.1) (ci := 5) (v := .ref a1) (C := RX7) (T := TX7) (N := 17) hx hb hts i_RX7 hown hK hP 0 rfl rfl 0 (Nat.le_of_ble_eq_true rfl) fl_9 (fun _ h9 => h9) rfl dX7_isTrump_5 ?_
  refine lv_iconst (pc := 8) (v := 0) hx hb dX7_isTrump_8 (by decide) ?_
  refine va_iald (pc := 9) (D := E.1) hx hb hK hP 1 0 rfl rfl (by decide : ¬ ((0 : Int32) < 0 ∨ 31 ≤ (0 : Int32).toNatClampNeg)) dX7_isTrump_9 ?_
  refine W.eq (g2 := F0 m 10 ls [.int (w.1 0), .int (x1 / 8)]) rfl ?_
  refine lv_iconst (pc := 10) (v := 4) hx hb dX7_isTrump_10 (by decide) ?_
  refine pv_irem (pc := 11) hx hb dX7_isTrump_11 (by decide) ?_
  refine lv_icmp_ne (pc := 12) (tgt := 19) hx hb dX7_isTrump_12 (by decide) (fun c_1 => ?_) (fun c_1 => ?_)
  · have hq := pv_neg c_1 hq
    refine lv_iconst (pc := 19) (v := 0) hx hb dX7_isTrump_19 (by decide) ?_
    exact pv_rzRO hx hb hr hlk hS (Option.some.inj hq) rfl dX7_isTrump_20
  · have hq := pv_pos c_1 hq
    refine lv_iconst (pc := 15) (v := 1) hx hb dX7_isTrump_15 (by decide) ?_
    refine lv_goto (pc := 16) (tgt := 20) hx hb dX7_isTrump_16 (by decide) ?_
    exact pv_rzRO hx hb hr hlk hS (Option.some.inj hq) rfl dX7_isTrump_20
def m_X7_trumpsOf (x1 : Int32) (w : pv_MT) : Option (Int32) :=
  some (x1 &&& ((255 : Int32) <<< ((8 * (pv_rem (w.1 0) 4)) &&& 31)))
abbrev r_X7_trumpsOf : Room := { frames := 0, cells := 0, slots := 0, locals := 0 }
set_option maxHeartbeats 4000000 in
set_option maxRecDepth 100000 in
theorem c_X7_trumpsOf (l : Launch) (E : pv_E) (a0 a1 a2 a3 a4 a5 a6 a7 a8 a9 a10 : Nat) (x1 : Int32) (w : pv_MT) (F : Int32) (hq : m_X7_trumpsOf x1 w = some F) : pv_RO l E yX7_trumpsOf wsX7_trumpsOf r_X7_trumpsOf (pv_wM E a0 a1 a2 a3 a4 a5 a6 a7 a8 a9 a10 w) [.ref a0, .int x1] (some (.int F)) := by
  intro sz
  refine pv_mk (by decide) rfl (Nat.le_of_ble_eq_true rfl) ?_
  intro p e s m args below meth c A hx hb hr hml hown hts hlk hAe hP hD0 hA hE hS ls hl
  have hown : s.vm.findClass RX7 = some m.cls := hown
  have hK := hE.1
  have hD := hD0
  have fl_9 : (Cond.fieldLink RX7 9 "ProvinceCardsModel" "m" "[I").before args s = true := hts _ (by decide +kernel)
  have i_RX7 : ∀ w ∈ wsX70, w ∈ wsX7_trumpsOf := by decide +kernel
  have hl : lv_has ls 2 [(0, .ref a0), (1, .int x1)] := hl
  suffices M0 : ∀ (locs : List Loc), va_S A s.heap s.heap locs → W p l e r_X7_trumpsOf s m args below meth c s.heap locs 0 0 (MQ below (pv_Ro (some (.int F))) args s 0 0 A) (F0 m 0 ls []) from M0 [] hS
  intro locs hS
  refine lv_iload_n (pc := 0) hx hb dX7_trumpsOf_0 rfl (lv_at hl 1 rfl) ?_
  refine lv_sipush (pc := 1) (v := 255) hx hb dX7_trumpsOf_1 (by decide) ?_
  refine lv_bipush (pc := 4) (v := 8) hx hb dX7_trumpsOf_4 (by decide) ?_
  refine lv_aload_n (pc := 6) hx hb dX7_trumpsOf_6 rfl (lv_at hl 0 rfl) ?_
  refine va_get (pc := 7) (D := E.1) (ci := 5) (v := .ref a1) (C := RX7) (T := TX7) (N := 17) hx hb hts i_RX7 hown hK hP 0 rfl rfl 0 (Nat.le_of_ble_eq_true rfl) fl_9 (fun _ h9 => h9) rfl dX7_trumpsOf_7 ?_
  refine lv_iconst (pc := 10) (v := 0) hx hb dX7_trumpsOf_10 (by decide) ?_
  refine va_iald (pc := 11) (D := E.1) hx hb hK hP 1 0 rfl rfl (by decide : ¬ ((0 : Int32) < 0 ∨ 31 ≤ (0 : Int32).toNatClampNeg)) dX7_trumpsOf_11 ?_
  refine W.eq (g2 := F0 m 12 ls [.int (w.1 0), .int 8, .int 255, .int x1]) rfl ?_
  refine lv_iconst (pc := 12) (v := 4) hx hb dX7_trumpsOf_12 (by decide) ?_
  refine pv_irem (pc := 13) hx hb dX7_trumpsOf_13 (by decide) ?_
  refine lv_imul (pc := 14) hx hb dX7_trumpsOf_14 ?_
  refine lv_ishl (pc := 15) hx hb dX7_trumpsOf_15 ?_
  refine lv_iand (pc := 16) hx hb dX7_trumpsOf_16 ?_
  exact pv_riRO hx hb hr hlk hS (Option.some.inj hq) dX7_trumpsOf_17
def m_X7_doesBeat_22 (x1 : Int32) (x2 : Int32) (w : pv_MT) : Option (Int32) :=
  Option.bind (m_X7_isTrump x1 w) fun u_2 => (if u_2 = 0 then (some 0) else (Option.bind (m_X7_isTrump x2 w) fun u_4 => (if u_4 = 0 then (some 1) else (some 0))))
def m_X7_doesBeat (x1 : Int32) (x2 : Int32) (w : pv_MT) : Option (Int32) :=
  if (x1 / 8) = (x2 / 8) then (if (pv_rem x2 8) < (pv_rem x1 8) then (some 1) else (m_X7_doesBeat_22 x1 x2 w)) else (m_X7_doesBeat_22 x1 x2 w)
abbrev r_X7_doesBeat : Room := { frames := 1, cells := 0, slots := 0, locals := 21 }
set_option maxHeartbeats 4000000 in
set_option maxRecDepth 100000 in
theorem c_X7_doesBeat (l : Launch) (E : pv_E) (a0 a1 a2 a3 a4 a5 a6 a7 a8 a9 a10 : Nat) (x1 : Int32) (x2 : Int32) (w : pv_MT) (F : Int32) (hq : m_X7_doesBeat x1 x2 w = some F) : pv_RO l E yX7_doesBeat wsX7_doesBeat r_X7_doesBeat (pv_wM E a0 a1 a2 a3 a4 a5 a6 a7 a8 a9 a10 w) [.ref a0, .int x1, .int x2] (some (.int F)) := by
  intro sz
  refine pv_mk (by decide) rfl (Nat.le_of_ble_eq_true rfl) ?_
  intro p e s m args below meth c A hx hb hr hml hown hts hlk hAe hP hD0 hA hE hS ls hl
  have hown : s.vm.findClass RX7 = some m.cls := hown
  have hK := hE.1
  have hD := hD0
  have hl : lv_has ls 3 [(0, .ref a0), (1, .int x1), (2, .int x2)] := hl
  have B_22 : ∀ (x1 : Int32) (x2 : Int32) (locs : List Loc) (ls : Array Slot), va_S A s.heap s.heap locs → lv_has ls 3 [(0, .ref a0), (1, .int x1), (2, .int x2)] → m_X7_doesBeat_22 x1 x2 w = some F → W p l e r_X7_doesBeat s m args below meth c s.heap locs 0 0 (MQ below (pv_Ro (some (.int F))) args s 0 0 A) (F0 m 22 ls []) := by
    intro x1 x2 locs ls hS hl hq
    refine lv_aload_n (pc := 22) hx hb dX7_doesBeat_22 rfl (lv_at hl 0 rfl) ?_
    refine lv_iload_n (pc := 23) hx hb dX7_doesBeat_23 rfl (lv_at hl 1 rfl) ?_
    obtain ⟨u_2, hu_2, hq⟩ := pv_bind hq
    refine pv_vROf (pc := 24) (rest := []) (st1 := [.int u_2]) (ws := pv_wM E a0 a1 a2 a3 a4 a5 a6 a7 a8 a9 a10 w) [.int x1] ⟨hx, hb, hml, hown, hts⟩ hE hA hS hP hD (c_X7_isTrump l E a0 a1 a2 a3 a4 a5 a6 a7 a8 a9 a10 x1 w u_2 hu_2) (cwV 1 hts gX7_doesBeat_X7_isTrump rfl rfl rfl (by decide +kernel) ⟨(Nat.le_of_ble_eq_true rfl), (Nat.le_of_ble_eq_true rfl)⟩) (va_recv hK hP (ci := 5) (q0 := 0) rfl rfl) rfl hl.1 rfl rfl (Nat.le_of_ble_eq_true rfl) dX7_doesBeat_24 ⟨Nat.zero_le _, Nat.zero_le _⟩ (fun locs hS => ?_)
    refine lv_if_eq (pc := 27) (tgt := 42) hx hb dX7_doesBeat_27 (by decide) (fun c_3 => ?_) (fun c_3 => ?_)
    · have hq := pv_pos c_3 hq
      refine lv_iconst (pc := 42) (v := 0) hx hb dX7_doesBeat_42 (by decide) ?_
      exact pv_rzRO hx hb hr hlk hS (Option.some.inj hq) rfl dX7_doesBeat_43
    · have hq := pv_neg c_3 hq
      refine lv_aload_n (pc := 30) hx hb dX7_doesBeat_30 rfl (lv_at hl 0 rfl) ?_
      refine lv_iload_n (pc := 31) hx hb dX7_doesBeat_31 rfl (lv_at hl 2 rfl) ?_
      obtain ⟨u_4, hu_4, hq⟩ := pv_bind hq
      refine pv_vROf (pc := 32) (rest := []) (st1 := [.int u_4]) (ws := pv_wM E a0 a1 a2 a3 a4 a5 a6 a7 a8 a9 a10 w) [.int x2] ⟨hx, hb, hml, hown, hts⟩ hE hA hS hP hD (c_X7_isTrump l E a0 a1 a2 a3 a4 a5 a6 a7 a8 a9 a10 x2 w u_4 hu_4) (cwV 1 hts gX7_doesBeat_X7_isTrump rfl rfl rfl (by decide +kernel) ⟨(Nat.le_of_ble_eq_true rfl), (Nat.le_of_ble_eq_true rfl)⟩) (va_recv hK hP (ci := 5) (q0 := 0) rfl rfl) rfl hl.1 rfl rfl (Nat.le_of_ble_eq_true rfl) dX7_doesBeat_32 ⟨Nat.zero_le _, Nat.zero_le _⟩ (fun locs hS => ?_)
      refine lv_if_ne (pc := 35) (tgt := 42) hx hb dX7_doesBeat_35 (by decide) (fun c_5 => ?_) (fun c_5 => ?_)
      · have hq := pv_neg c_5 hq
        refine lv_iconst (pc := 42) (v := 0) hx hb dX7_doesBeat_42 (by decide) ?_
        exact pv_rzRO hx hb hr hlk hS (Option.some.inj hq) rfl dX7_doesBeat_43
      · have hq := pv_pos c_5 hq
        refine lv_iconst (pc := 38) (v := 1) hx hb dX7_doesBeat_38 (by decide) ?_
        refine lv_goto (pc := 39) (tgt := 43) hx hb dX7_doesBeat_39 (by decide) ?_
        exact pv_rzRO hx hb hr hlk hS (Option.some.inj hq) rfl dX7_doesBeat_43
  suffices M0 : ∀ (locs : List Loc), va_S A s.heap s.heap locs → W p l e r_X7_doesBeat s m args below meth c s.heap locs 0 0 (MQ below (pv_Ro (some (.int F))) args s 0 0 A) (F0 m 0 ls []) from M0 [] hS
  intro locs hS
  refine lv_iload_n (pc := 0) hx hb dX7_doesBeat_0 rfl (lv_at hl 1 rfl) ?_
  refine lv_bipush (pc := 1) (v := 8) hx hb dX7_doesBeat_1 (by decide) ?_
  refine lv_idiv (pc := 3) hx hb dX7_doesBeat_3 (by decide) ?_
  refine lv_iload_n (pc := 4) hx hb dX7_doesBeat_4 rfl (lv_at hl 2 rfl) ?_
  refine lv_bipush (pc := 5) (v := 8) hx hb dX7_doesBeat_5 (by decide) ?_
  refine lv_idiv (pc := 7) hx hb dX7_doesBeat_7 (by decide) ?_
  refine lv_icmp_ne (pc := 8) (tgt := 22) hx hb dX7_doesBeat_8 (by decide) (fun c_1 => ?_) (fun c_1 => ?_)
  · have hq := pv_neg c_1 hq
    exact B_22 x1 x2 locs ls hS (lv_sub hl [0, 1, 2] rfl) hq
  · have hq := pv_pos c_1 hq
    refine lv_iload_n (pc := 11) hx hb dX7_doesBeat_11 rfl (lv_at hl 1 rfl) ?_
    refine lv_bipush (pc := 12) (v := 8) hx hb dX7_doesBeat_12 (by decide) ?_
    refine pv_irem (pc := 14) hx hb dX7_doesBeat_14 (by decide) ?_
    refine lv_iload_n (pc := 15) hx hb dX7_doesBeat_15 rfl (lv_at hl 2 rfl) ?_
    refine lv_bipush (pc := 16) (v := 8) hx hb dX7_doesBeat_16 (by decide) ?_
    refine pv_irem (pc := 18) hx hb dX7_doesBeat_18 (by decide) ?_
    refine lv_icmp_gt (pc := 19) (tgt := 38) hx hb dX7_doesBeat_19 (by decide) (fun c_6 => ?_) (fun c_6 => ?_)
    · have hq := pv_pos c_6 hq
      refine lv_iconst (pc := 38) (v := 1) hx hb dX7_doesBeat_38 (by decide) ?_
      refine lv_goto (pc := 39) (tgt := 43) hx hb dX7_doesBeat_39 (by decide) ?_
      exact pv_rzRO hx hb hr hlk hS (Option.some.inj hq) rfl dX7_doesBeat_43
    · have hq := pv_neg c_6 hq
      exact B_22 x1 x2 locs ls hS (lv_sub hl [0, 1, 2] rfl) hq
def m_X7_beaters_40 (k_5 : Int32 → Int32 → Int32 → Int32 → pv_MT → Option (Int32)) (x1 : Int32) (x2 : Int32) (x4 : Int32) (y0 : Int32) (y1 : Int32) (w : pv_MT) : Option (Int32) :=
  k_5 x1 x2 (y0 ||| y1) (x4 + 1) w
def m_X7_beaters_39 (k_5 : Int32 → Int32 → Int32 → Int32 → pv_MT → Option (Int32)) (x1 : Int32) (x2 : Int32) (x4 : Int32) (y0 : Int32) (w : pv_MT) : Option (Int32) :=
  m_X7_beaters_40 k_5 x1 x2 x4 y0 0 w
def m_X7_beaters_5 : Nat → Int32 → Int32 → Int32 → Int32 → pv_MT → Option (Int32)
  | 0 => fun _ _ _ _ _ => none
  | n + 1 => fun x1 x2 x3 x4 w =>
    if 32 ≤ x4 then (some x3) else (if (m_X7_has x1 x4) = 0 then (m_X7_beaters_39 (m_X7_beaters_5 n) x1 x2 x4 x3 w) else (Option.bind (m_X7_doesBeat x4 x2 w) fun u_3 => (if u_3 = 0 then (m_X7_beaters_39 (m_X7_beaters_5 n) x1 x2 x4 x3 w) else (m_X7_beaters_40 (m_X7_beaters_5 n) x1 x2 x4 x3 ((1 : Int32) <<< (x4 &&& 31)) w))))
def m_X7_beaters (x1 : Int32) (x2 : Int32) (w : pv_MT) : Option (Int32) :=
  m_X7_beaters_5 300 x1 x2 0 0 w
abbrev r_X7_beaters : Room := { frames := 2, cells := 0, slots := 0, locals := 43 }
set_option maxHeartbeats 4000000 in
set_option maxRecDepth 100000 in
theorem c_X7_beaters (l : Launch) (E : pv_E) (a0 a1 a2 a3 a4 a5 a6 a7 a8 a9 a10 : Nat) (x1 : Int32) (x2 : Int32) (w : pv_MT) (F : Int32) (hq : m_X7_beaters x1 x2 w = some F) : pv_RO l E yX7_beaters wsX7_beaters r_X7_beaters (pv_wM E a0 a1 a2 a3 a4 a5 a6 a7 a8 a9 a10 w) [.ref a0, .int x1, .int x2] (some (.int F)) := by
  intro sz
  refine pv_mk (by decide) rfl (Nat.le_of_ble_eq_true rfl) ?_
  intro p e s m args below meth c A hx hb hr hml hown hts hlk hAe hP hD0 hA hE hS ls hl
  have hown : s.vm.findClass RX7 = some m.cls := hown
  have hK := hE.1
  have hD := hD0
  have hl : lv_has ls 5 [(0, .ref a0), (1, .int x1), (2, .int x2)] := hl
  have B_40 : ∀ (k_5 : Int32 → Int32 → Int32 → Int32 → pv_MT → Option (Int32)), (∀ (x1 : Int32) (x2 : Int32) (x3 : Int32) (x4 : Int32) (locs : List Loc) (ls : Array Slot), va_S A s.heap s.heap locs → lv_has ls 5 [(0, .ref a0), (1, .int x1), (2, .int x2), (3, .int x3), (4, .int x4)] → k_5 x1 x2 x3 x4 w = some F → W p l e r_X7_beaters s m args below meth c s.heap locs 0 0 (MQ below (pv_Ro (some (.int F))) args s 0 0 A) (F0 m 5 ls [])) → ∀ (x1 : Int32) (x2 : Int32) (x4 : Int32) (y0 : Int32) (y1 : Int32) (locs : List Loc) (ls : Array Slot), va_S A s.heap s.heap locs → lv_has ls 5 [(0, .ref a0), (1, .int x1), (2, .int x2), (4, .int x4)] → m_X7_beaters_40 k_5 x1 x2 x4 y0 y1 w = some F → W p l e r_X7_beaters s m args below meth c s.heap locs 0 0 (MQ below (pv_Ro (some (.int F))) args s 0 0 A) (F0 m 40 ls [.int y1, .int y0]) := by
    intro k_5 hk_5
    intro x1 x2 x4 y0 y1 locs ls hS hl hq
    refine lv_ior (pc := 40) hx hb dX7_beaters_40 ?_
    refine lv_istore_n (pc := 41) (lv' := [(3, .int (y0 ||| y1)), (0, .ref a0), (1, .int x1), (2, .int x2), (4, .int x4)]) hx hb dX7_beaters_41 rfl hl (Nat.le_of_ble_eq_true rfl) rfl (fun ls hl => ?_)
    refine lv_iinc (pc := 42) (v := (x4 + 1)) (lv' := [(4, .int (x4 + 1)), (3, .int (y0 ||| y1)), (0, .ref a0), (1, .int x1), (2, .int x2)]) hx hb dX7_beaters_42 hl (k := 4) rfl rfl (Nat.le_of_ble_eq_true rfl) rfl (fun ls hl => ?_)
    refine lv_goto (pc := 45) (tgt := 5) hx hb dX7_beaters_45 (by decide) ?_
    exact hk_5 x1 x2 (y0 ||| y1) (x4 + 1) locs ls hS (lv_sub hl [2, 3, 4, 1, 0] rfl) hq
  have B_39 : ∀ (k_5 : Int32 → Int32 → Int32 → Int32 → pv_MT → Option (Int32)), (∀ (x1 : Int32) (x2 : Int32) (x3 : Int32) (x4 : Int32) (locs : List Loc) (ls : Array Slot), va_S A s.heap s.heap locs → lv_has ls 5 [(0, .ref a0), (1, .int x1), (2, .int x2), (3, .int x3), (4, .int x4)] → k_5 x1 x2 x3 x4 w = some F → W p l e r_X7_beaters s m args below meth c s.heap locs 0 0 (MQ below (pv_Ro (some (.int F))) args s 0 0 A) (F0 m 5 ls [])) → ∀ (x1 : Int32) (x2 : Int32) (x4 : Int32) (y0 : Int32) (locs : List Loc) (ls : Array Slot), va_S A s.heap s.heap locs → lv_has ls 5 [(0, .ref a0), (1, .int x1), (2, .int x2), (4, .int x4)] → m_X7_beaters_39 k_5 x1 x2 x4 y0 w = some F → W p l e r_X7_beaters s m args below meth c s.heap locs 0 0 (MQ below (pv_Ro (some (.int F))) args s 0 0 A) (F0 m 39 ls [.int y0]) := by
    intro k_5 hk_5
    intro x1 x2 x4 y0 locs ls hS hl hq
    refine lv_iconst (pc := 39) (v := 0) hx hb dX7_beaters_39 (by decide) ?_
    exact B_40 k_5 hk_5 x1 x2 x4 y0 0 locs ls hS (lv_sub hl [0, 1, 2, 3] rfl) hq
  have L_5 : ∀ n : Nat, ∀ (x1 : Int32) (x2 : Int32) (x3 : Int32) (x4 : Int32) (locs : List Loc) (ls : Array Slot), va_S A s.heap s.heap locs → lv_has ls 5 [(0, .ref a0), (1, .int x1), (2, .int x2), (3, .int x3), (4, .int x4)] → m_X7_beaters_5 n x1 x2 x3 x4 w = some F → W p l e r_X7_beaters s m args below meth c s.heap locs 0 0 (MQ below (pv_Ro (some (.int F))) args s 0 0 A) (F0 m 5 ls []) := by
    intro n
    induction n with
    | zero =>
      intro x1 x2 x3 x4 locs ls hS hl hq
      exact (pv_no hq).elim
    | succ n ih =>
      intro x1 x2 x3 x4 locs ls hS hl hq
      refine lv_iload (pc := 5) hx hb dX7_beaters_5 (lv_at hl 4 rfl) ?_
      refine lv_bipush (pc := 7) (v := 32) hx hb dX7_beaters_7 (by decide) ?_
      refine lv_icmp_ge (pc := 9) (tgt := 48) hx hb dX7_beaters_9 (by decide) (fun c_1 => ?_) (fun c_1 => ?_)
      · have hq := pv_pos c_1 hq
        refine lv_iload_n (pc := 48) hx hb dX7_beaters_48 rfl (lv_at hl 3 rfl) ?_
        exact pv_riRO hx hb hr hlk hS (Option.some.inj hq) dX7_beaters_49
      · have hq := pv_neg c_1 hq
        refine lv_iload_n (pc := 12) hx hb dX7_beaters_12 rfl (lv_at hl 3 rfl) ?_
        refine lv_iload_n (pc := 13) hx hb dX7_beaters_13 rfl (lv_at hl 1 rfl) ?_
        refine lv_iload (pc := 14) hx hb dX7_beaters_14 (lv_at hl 4 rfl) ?_
        refine pv_sRO (pc := 16) (rest := [.int x3]) (st1 := [.int (m_X7_has x1 x4), .int x3]) (ws := pv_wM E a0 a1 a2 a3 a4 a5 a6 a7 a8 a9 a10 w) [.int x1, .int x4] ⟨hx, hb, hml, hown, hts⟩ hE hA hS hP hD (c_X7_has l E x1 x4) (va_cwS 2 hts gX7_beaters_X7_has rfl rfl rfl (by decide +kernel) ⟨(Nat.le_of_ble_eq_true rfl), (Nat.le_of_ble_eq_true rfl)⟩) [] rfl rfl rfl hl.1 rfl rfl (Nat.le_of_ble_eq_true rfl) dX7_beaters_16 ⟨Nat.zero_le _, Nat.zero_le _⟩ (fun locs hS => ?_)
        refine lv_if_eq (pc := 19) (tgt := 39) hx hb dX7_beaters_19 (by decide) (fun c_2 => ?_) (fun c_2 => ?_)
        · have hq := pv_pos c_2 hq
          exact B_39 (m_X7_beaters_5 n) ih x1 x2 x4 x3 locs ls hS (lv_sub hl [0, 1, 2, 4] rfl) hq
        · have hq := pv_neg c_2 hq
          refine lv_aload_n (pc := 22) hx hb dX7_beaters_22 rfl (lv_at hl 0 rfl) ?_
          refine lv_iload (pc := 23) hx hb dX7_beaters_23 (lv_at hl 4 rfl) ?_
          refine lv_iload_n (pc := 25) hx hb dX7_beaters_25 rfl (lv_at hl 2 rfl) ?_
          obtain ⟨u_3, hu_3, hq⟩ := pv_bind hq
          refine pv_vROf (pc := 26) (rest := [.int x3]) (st1 := [.int u_3, .int x3]) (ws := pv_wM E a0 a1 a2 a3 a4 a5 a6 a7 a8 a9 a10 w) [.int x4, .int x2] ⟨hx, hb, hml, hown, hts⟩ hE hA hS hP hD (c_X7_doesBeat l E a0 a1 a2 a3 a4 a5 a6 a7 a8 a9 a10 x4 x2 w u_3 hu_3) (cwV 2 hts gX7_beaters_X7_doesBeat rfl rfl rfl (by decide +kernel) ⟨(Nat.le_of_ble_eq_true rfl), (Nat.le_of_ble_eq_true rfl)⟩) (va_recv hK hP (ci := 5) (q0 := 0) rfl rfl) rfl hl.1 rfl rfl (Nat.le_of_ble_eq_true rfl) dX7_beaters_26 ⟨Nat.zero_le _, Nat.zero_le _⟩ (fun locs hS => ?_)
          refine lv_if_eq (pc := 29) (tgt := 39) hx hb dX7_beaters_29 (by decide) (fun c_4 => ?_) (fun c_4 => ?_)
          · have hq := pv_pos c_4 hq
            exact B_39 (m_X7_beaters_5 n) ih x1 x2 x4 x3 locs ls hS (lv_sub hl [0, 1, 2, 4] rfl) hq
          · have hq := pv_neg c_4 hq
            refine lv_iconst (pc := 32) (v := 1) hx hb dX7_beaters_32 (by decide) ?_
            refine lv_iload (pc := 33) hx hb dX7_beaters_33 (lv_at hl 4 rfl) ?_
            refine lv_ishl (pc := 35) hx hb dX7_beaters_35 ?_
            refine lv_goto (pc := 36) (tgt := 40) hx hb dX7_beaters_36 (by decide) ?_
            exact B_40 (m_X7_beaters_5 n) ih x1 x2 x4 x3 ((1 : Int32) <<< (x4 &&& 31)) locs ls hS (lv_sub hl [0, 1, 2, 4] rfl) hq
  suffices M0 : ∀ (locs : List Loc), va_S A s.heap s.heap locs → W p l e r_X7_beaters s m args below meth c s.heap locs 0 0 (MQ below (pv_Ro (some (.int F))) args s 0 0 A) (F0 m 0 ls []) from M0 [] hS
  intro locs hS
  refine lv_iconst (pc := 0) (v := 0) hx hb dX7_beaters_0 (by decide) ?_
  refine lv_istore_n (pc := 1) (lv' := [(3, .int 0), (0, .ref a0), (1, .int x1), (2, .int x2)]) hx hb dX7_beaters_1 rfl hl (Nat.le_of_ble_eq_true rfl) rfl (fun ls hl => ?_)
  refine lv_iconst (pc := 2) (v := 0) hx hb dX7_beaters_2 (by decide) ?_
  refine lv_istore (pc := 3) (lv' := [(4, .int 0), (3, .int 0), (0, .ref a0), (1, .int x1), (2, .int x2)]) hx hb dX7_beaters_3 hl (Nat.le_of_ble_eq_true rfl) rfl (fun ls hl => ?_)
  exact L_5 300 x1 x2 0 0 locs ls hS (lv_sub hl [2, 3, 4, 1, 0] rfl) hq
def m_X7_ledBy_62 (y0 : Int32) (w : pv_MT) : Option (Int32) :=
  Option.bind (m_X7_highest y0) fun u_7 => (some u_7)
def m_X7_ledBy (x1 : Int32) (x2 : Int32) (w : pv_MT) : Option (Int32) :=
  Option.bind (m_X7_trumpsOf x2 w) fun u_1 => (Option.bind (m_X7_it x1 0 w) fun u_2 => (if u_2 = 1 then (Option.bind (m_X7_lowest x2) fun u_4 => (some u_4)) else if u_2 = 2 then (if u_1 = 0 then (m_X7_ledBy_62 x2 w) else (m_X7_ledBy_62 u_1 w)) else if u_2 = 3 then (Option.bind (m_X7_lowest x2) fun u_9 => (some u_9)) else if u_2 = 4 then (Option.bind (m_X7_bits x2) fun u_11 => (if 2 < u_11 then (Option.bind (m_X7_lowest x2) fun u_13 => (some u_13)) else (Option.bind (m_X7_highest x2) fun u_14 => (some u_14)))) else if u_2 = 5 then (if u_1 = 0 then (m_X7_ledBy_62 x2 w) else (m_X7_ledBy_62 u_1 w)) else (Option.bind (m_X7_highest x2) fun u_17 => (some u_17))))
abbrev r_X7_ledBy : Room := { frames := 2, cells := 0, slots := 0, locals := 43 }
set_option maxHeartbeats 4000000 in
set_option maxRecDepth 100000 in
theorem c_X7_ledBy (l : Launch) (E : pv_E) (a0 a1 a2 a3 a4 a5 a6 a7 a8 a9 a10 : Nat) (x1 : Int32) (x2 : Int32) (w : pv_MT) (F : Int32) (hq : m_X7_ledBy x1 x2 w = some F) : pv_RO l E yX7_ledBy wsX7_ledBy r_X7_ledBy (pv_wM E a0 a1 a2 a3 a4 a5 a6 a7 a8 a9 a10 w) [.ref a0, .int x1, .int x2] (some (.int F)) := by
  intro sz
  refine pv_mk (by decide) rfl (Nat.le_of_ble_eq_true rfl) ?_
  intro p e s m args below meth c A hx hb hr hml hown hts hlk hAe hP hD0 hA hE hS ls hl
  have hown : s.vm.findClass RX7 = some m.cls := hown
  have hK := hE.1
  have hD := hD0
  have hl : lv_has ls 4 [(0, .ref a0), (1, .int x1), (2, .int x2)] := hl
  have B_62 : ∀ (y0 : Int32) (locs : List Loc) (ls : Array Slot), va_S A s.heap s.heap locs → lv_has ls 4 [] → m_X7_ledBy_62 y0 w = some F → W p l e r_X7_ledBy s m args below meth c s.heap locs 0 0 (MQ below (pv_Ro (some (.int F))) args s 0 0 A) (F0 m 62 ls [.int y0]) := by
    intro y0 locs ls hS hl hq
    obtain ⟨u_7, hu_7, hq⟩ := pv_bind hq
    refine pv_sRO (pc := 62) (rest := []) (st1 := [.int u_7]) (ws := pv_wM E a0 a1 a2 a3 a4 a5 a6 a7 a8 a9 a10 w) [.int y0] ⟨hx, hb, hml, hown, hts⟩ hE hA hS hP hD (c_X7_highest l E y0 u_7 hu_7) (va_cwS 1 hts gX7_ledBy_X7_highest rfl rfl rfl (by decide +kernel) ⟨(Nat.le_of_ble_eq_true rfl), (Nat.le_of_ble_eq_true rfl)⟩) [] rfl rfl rfl hl.1 rfl rfl (Nat.le_of_ble_eq_true rfl) dX7_ledBy_62 ⟨Nat.zero_le _, Nat.zero_le _⟩ (fun locs hS => ?_)
    exact pv_riRO hx hb hr hlk hS (Option.some.inj hq) dX7_ledBy_65
  suffices M0 : ∀ (locs : List Loc), va_S A s.heap s.heap locs → W p l e r_X7_ledBy s m args below meth c s.heap locs 0 0 (MQ below (pv_Ro (some (.int F))) args s 0 0 A) (F0 m 0 ls []) from M0 [] hS
  intro locs hS
  refine lv_aload_n (pc := 0) hx hb dX7_ledBy_0 rfl (lv_at hl 0 rfl) ?_
  refine lv_iload_n (pc := 1) hx hb dX7_ledBy_1 rfl (lv_at hl 2 rfl) ?_
  obtain ⟨u_1, hu_1, hq⟩ := pv_bind hq
  refine pv_vROf (pc := 2) (rest := []) (st1 := [.int u_1]) (ws := pv_wM E a0 a1 a2 a3 a4 a5 a6 a7 a8 a9 a10 w) [.int x2] ⟨hx, hb, hml, hown, hts⟩ hE hA hS hP hD (c_X7_trumpsOf l E a0 a1 a2 a3 a4 a5 a6 a7 a8 a9 a10 x2 w u_1 hu_1) (cwV 1 hts gX7_ledBy_X7_trumpsOf rfl rfl rfl (by decide +kernel) ⟨(Nat.le_of_ble_eq_true rfl), (Nat.le_of_ble_eq_true rfl)⟩) (va_recv hK hP (ci := 5) (q0 := 0) rfl rfl) rfl hl.1 rfl rfl (Nat.le_of_ble_eq_true rfl) dX7_ledBy_2 ⟨Nat.zero_le _, Nat.zero_le _⟩ (fun locs hS => ?_)
  refine lv_istore_n (pc := 5) (lv' := [(3, .int u_1), (0, .ref a0), (1, .int x1), (2, .int x2)]) hx hb dX7_ledBy_5 rfl hl (Nat.le_of_ble_eq_true rfl) rfl (fun ls hl => ?_)
  refine lv_aload_n (pc := 6) hx hb dX7_ledBy_6 rfl (lv_at hl 1 rfl) ?_
  refine lv_iload_n (pc := 7) hx hb dX7_ledBy_7 rfl (lv_at hl 2 rfl) ?_
  refine lv_iconst (pc := 8) (v := 0) hx hb dX7_ledBy_8 (by decide) ?_
  obtain ⟨u_2, hu_2, hq⟩ := pv_bind hq
  refine pv_vROf (pc := 9) (rest := []) (st1 := [.int u_2]) (ws := pv_wM E a0 a1 a2 a3 a4 a5 a6 a7 a8 a9 a10 w) [.int x1, .int 0] ⟨hx, hb, hml, hown, hts⟩ hE hA hS hP hD (c_X7_it l E a0 a1 a2 a3 a4 a5 a6 a7 a8 a9 a10 x1 0 w u_2 hu_2) (cwV 2 hts gX7_ledBy_X7_it rfl rfl rfl (by decide +kernel) ⟨(Nat.le_of_ble_eq_true rfl), (Nat.le_of_ble_eq_true rfl)⟩) (va_recv hK hP (ci := 5) (q0 := 0) rfl rfl) rfl hl.1 rfl rfl (Nat.le_of_ble_eq_true rfl) dX7_ledBy_9 ⟨Nat.zero_le _, Nat.zero_le _⟩ (fun locs hS => ?_)
  by_cases c_3 : u_2 = 1
  · have hq := pv_pos c_3 hq
    refine lv_tableIn (pc := 12) (tgt := 48) (off := 36) hx hb dX7_ledBy_12 (by rw [c_3]; decide) (by rw [c_3]; decide) (by rw [c_3]; rfl) (by decide) ?_
    refine lv_iload_n (pc := 48) hx hb dX7_ledBy_48 rfl (lv_at hl 3 rfl) ?_
    obtain ⟨u_4, hu_4, hq⟩ := pv_bind hq
    refine pv_sRO (pc := 49) (rest := []) (st1 := [.int u_4]) (ws := pv_wM E a0 a1 a2 a3 a4 a5 a6 a7 a8 a9 a10 w) [.int x2] ⟨hx, hb, hml, hown, hts⟩ hE hA hS hP hD (c_X7_lowest l E x2 u_4 hu_4) (va_cwS 1 hts gX7_ledBy_X7_lowest rfl rfl rfl (by decide +kernel) ⟨(Nat.le_of_ble_eq_true rfl), (Nat.le_of_ble_eq_true rfl)⟩) [] rfl rfl rfl hl.1 rfl rfl (Nat.le_of_ble_eq_true rfl) dX7_ledBy_49 ⟨Nat.zero_le _, Nat.zero_le _⟩ (fun locs hS => ?_)
    exact pv_riRO hx hb hr hlk hS (Option.some.inj hq) dX7_ledBy_52
  have hq := pv_neg c_3 hq
  by_cases c_5 : u_2 = 2
  · have hq := pv_pos c_5 hq
    refine lv_tableIn (pc := 12) (tgt := 53) (off := 41) hx hb dX7_ledBy_12 (by rw [c_5]; decide) (by rw [c_5]; decide) (by rw [c_5]; rfl) (by decide) ?_
    refine lv_iload_n (pc := 53) hx hb dX7_ledBy_53 rfl (lv_at hl 0 rfl) ?_
    refine lv_if_ne (pc := 54) (tgt := 61) hx hb dX7_ledBy_54 (by decide) (fun c_6 => ?_) (fun c_6 => ?_)
    · have hq := pv_neg c_6 hq
      refine lv_iload_n (pc := 61) hx hb dX7_ledBy_61 rfl (lv_at hl 0 rfl) ?_
      exact B_62 u_1 locs ls hS (lv_sub hl [] rfl) hq
    · have hq := pv_pos c_6 hq
      refine lv_iload_n (pc := 57) hx hb dX7_ledBy_57 rfl (lv_at hl 3 rfl) ?_
      refine lv_goto (pc := 58) (tgt := 62) hx hb dX7_ledBy_58 (by decide) ?_
      exact B_62 x2 locs ls hS (lv_sub hl [] rfl) hq
  have hq := pv_neg c_5 hq
  by_cases c_8 : u_2 = 3
  · have hq := pv_pos c_8 hq
    refine lv_tableIn (pc := 12) (tgt := 48) (off := 36) hx hb dX7_ledBy_12 (by rw [c_8]; decide) (by rw [c_8]; decide) (by rw [c_8]; rfl) (by decide) ?_
    refine lv_iload_n (pc := 48) hx hb dX7_ledBy_48 rfl (lv_at hl 3 rfl) ?_
    obtain ⟨u_9, hu_9, hq⟩ := pv_bind hq
    refine pv_sRO (pc := 49) (rest := []) (st1 := [.int u_9]) (ws := pv_wM E a0 a1 a2 a3 a4 a5 a6 a7 a8 a9 a10 w) [.int x2] ⟨hx, hb, hml, hown, hts⟩ hE hA hS hP hD (c_X7_lowest l E x2 u_9 hu_9) (va_cwS 1 hts gX7_ledBy_X7_lowest rfl rfl rfl (by decide +kernel) ⟨(Nat.le_of_ble_eq_true rfl), (Nat.le_of_ble_eq_true rfl)⟩) [] rfl rfl rfl hl.1 rfl rfl (Nat.le_of_ble_eq_true rfl) dX7_ledBy_49 ⟨Nat.zero_le _, Nat.zero_le _⟩ (fun locs hS => ?_)
    exact pv_riRO hx hb hr hlk hS (Option.some.inj hq) dX7_ledBy_52
  have hq := pv_neg c_8 hq
  by_cases c_10 : u_2 = 4
  · have hq := pv_pos c_10 hq
    refine lv_tableIn (pc := 12) (tgt := 66) (off := 54) hx hb dX7_ledBy_12 (by rw [c_10]; decide) (by rw [c_10]; decide) (by rw [c_10]; rfl) (by decide) ?_
    refine lv_iload_n (pc := 66) hx hb dX7_ledBy_66 rfl (lv_at hl 3 rfl) ?_
    obtain ⟨u_11, hu_11, hq⟩ := pv_bind hq
    refine pv_sRO (pc := 67) (rest := []) (st1 := [.int u_11]) (ws := pv_wM E a0 a1 a2 a3 a4 a5 a6 a7 a8 a9 a10 w) [.int x2] ⟨hx, hb, hml, hown, hts⟩ hE hA hS hP hD (c_X7_bits l E x2 u_11 hu_11) (va_cwS 1 hts gX7_ledBy_X7_bits rfl rfl rfl (by decide +kernel) ⟨(Nat.le_of_ble_eq_true rfl), (Nat.le_of_ble_eq_true rfl)⟩) [] rfl rfl rfl hl.1 rfl rfl (Nat.le_of_ble_eq_true rfl) dX7_ledBy_67 ⟨Nat.zero_le _, Nat.zero_le _⟩ (fun locs hS => ?_)
    refine lv_iconst (pc := 70) (v := 2) hx hb dX7_ledBy_70 (by decide) ?_
    refine lv_icmp_gt (pc := 71) (tgt := 81) hx hb dX7_ledBy_71 (by decide) (fun c_12 => ?_) (fun c_12 => ?_)
    · have hq := pv_pos c_12 hq
      refine lv_iload_n (pc := 81) hx hb dX7_ledBy_81 rfl (lv_at hl 3 rfl) ?_
      obtain ⟨u_13, hu_13, hq⟩ := pv_bind hq
      refine pv_sRO (pc := 82) (rest := []) (st1 := [.int u_13]) (ws := pv_wM E a0 a1 a2 a3 a4 a5 a6 a7 a8 a9 a10 w) [.int x2] ⟨hx, hb, hml, hown, hts⟩ hE hA hS hP hD (c_X7_lowest l E x2 u_13 hu_13) (va_cwS 1 hts gX7_ledBy_X7_lowest rfl rfl rfl (by decide +kernel) ⟨(Nat.le_of_ble_eq_true rfl), (Nat.le_of_ble_eq_true rfl)⟩) [] rfl rfl rfl hl.1 rfl rfl (Nat.le_of_ble_eq_true rfl) dX7_ledBy_82 ⟨Nat.zero_le _, Nat.zero_le _⟩ (fun locs hS => ?_)
      exact pv_riRO hx hb hr hlk hS (Option.some.inj hq) dX7_ledBy_85
    · have hq := pv_neg c_12 hq
      refine lv_iload_n (pc := 74) hx hb dX7_ledBy_74 rfl (lv_at hl 3 rfl) ?_
      obtain ⟨u_14, hu_14, hq⟩ := pv_bind hq
      refine pv_sRO (pc := 75) (rest := []) (st1 := [.int u_14]) (ws := pv_wM E a0 a1 a2 a3 a4 a5 a6 a7 a8 a9 a10 w) [.int x2] ⟨hx, hb, hml, hown, hts⟩ hE hA hS hP hD (c_X7_highest l E x2 u_14 hu_14) (va_cwS 1 hts gX7_ledBy_X7_highest rfl rfl rfl (by decide +kernel) ⟨(Nat.le_of_ble_eq_true rfl), (Nat.le_of_ble_eq_true rfl)⟩) [] rfl rfl rfl hl.1 rfl rfl (Nat.le_of_ble_eq_true rfl) dX7_ledBy_75 ⟨Nat.zero_le _, Nat.zero_le _⟩ (fun locs hS => ?_)
      refine lv_goto (pc := 78) (tgt := 85) hx hb dX7_ledBy_78 (by decide) ?_
      exact pv_riRO hx hb hr hlk hS (Option.some.inj hq) dX7_ledBy_85
  have hq := pv_neg c_10 hq
  by_cases c_15 : u_2 = 5
  · have hq := pv_pos c_15 hq
    refine lv_tableIn (pc := 12) (tgt := 53) (off := 41) hx hb dX7_ledBy_12 (by rw [c_15]; decide) (by rw [c_15]; decide) (by rw [c_15]; rfl) (by decide) ?_
    refine lv_iload_n (pc := 53) hx hb dX7_ledBy_53 rfl (lv_at hl 0 rfl) ?_
    refine lv_if_ne (pc := 54) (tgt := 61) hx hb dX7_ledBy_54 (by decide) (fun c_16 => ?_) (fun c_16 => ?_)
    · have hq := pv_neg c_16 hq
      refine lv_iload_n (pc := 61) hx hb dX7_ledBy_61 rfl (lv_at hl 0 rfl) ?_
      exact B_62 u_1 locs ls hS (lv_sub hl [] rfl) hq
    · have hq := pv_pos c_16 hq
      refine lv_iload_n (pc := 57) hx hb dX7_ledBy_57 rfl (lv_at hl 3 rfl) ?_
      refine lv_goto (pc := 58) (tgt := 62) hx hb dX7_ledBy_58 (by decide) ?_
      exact B_62 x2 locs ls hS (lv_sub hl [] rfl) hq
  have hq := pv_neg c_15 hq
  refine lv_tableOut (pc := 12) (tgt := 86) hx hb dX7_ledBy_12 (pv_swr (x := u_2) 1 5 (fun k h1 h2 => (fun e7 => Or.elim e7 (fun e8 e9 => c_3 ((e9.trans (congrArg Int32.ofInt e8)).trans (by decide))) (fun e7 => Or.elim e7 (fun e8 e9 => c_5 ((e9.trans (congrArg Int32.ofInt e8)).trans (by decide))) (fun e7 => Or.elim e7 (fun e8 e9 => c_8 ((e9.trans (congrArg Int32.ofInt e8)).trans (by decide))) (fun e7 => Or.elim e7 (fun e8 e9 => c_10 ((e9.trans (congrArg Int32.ofInt e8)).trans (by decide))) (fun e8 e9 => c_15 ((e9.trans (congrArg Int32.ofInt e8)).trans (by decide))))))) (show k = 1 ∨ k = 2 ∨ k = 3 ∨ k = 4 ∨ k = 5 by omega))) (by decide) ?_
  refine lv_iload_n (pc := 86) hx hb dX7_ledBy_86 rfl (lv_at hl 3 rfl) ?_
  obtain ⟨u_17, hu_17, hq⟩ := pv_bind hq
  refine pv_sRO (pc := 87) (rest := []) (st1 := [.int u_17]) (ws := pv_wM E a0 a1 a2 a3 a4 a5 a6 a7 a8 a9 a10 w) [.int x2] ⟨hx, hb, hml, hown, hts⟩ hE hA hS hP hD (c_X7_highest l E x2 u_17 hu_17) (va_cwS 1 hts gX7_ledBy_X7_highest rfl rfl rfl (by decide +kernel) ⟨(Nat.le_of_ble_eq_true rfl), (Nat.le_of_ble_eq_true rfl)⟩) [] rfl rfl rfl hl.1 rfl rfl (Nat.le_of_ble_eq_true rfl) dX7_ledBy_87 ⟨Nat.zero_le _, Nat.zero_le _⟩ (fun locs hS => ?_)
  exact pv_riRO hx hb hr hlk hS (Option.some.inj hq) dX7_ledBy_90
def m_X7_mayOf_36 (x2 : Int32) (x3 : Int32) (y0 : Int32) (w : pv_MT) : Option (Int32) :=
  if y0 = 0 then (if (x2 &&& ((255 : Int32) <<< ((8 * (x3 / 8)) &&& 31))) = 0 then (some x2) else (some (x2 &&& ((255 : Int32) <<< ((8 * (x3 / 8)) &&& 31))))) else (some x2)
def m_X7_mayOf_35 (x2 : Int32) (x3 : Int32) (w : pv_MT) : Option (Int32) :=
  m_X7_mayOf_36 x2 x3 0 w
def m_X7_mayOf_20 (x2 : Int32) (x3 : Int32) (w : pv_MT) : Option (Int32) :=
  if (pv_rem (w.1 0) 3) = 0 then (m_X7_mayOf_36 x2 x3 1 w) else (m_X7_mayOf_35 x2 x3 w)
def m_X7_mayOf (x1 : Int32) (x2 : Int32) (x3 : Int32) (w : pv_MT) : Option (Int32) :=
  Option.bind (m_X7_it x1 0 w) fun u_1 => (if u_1 = 2 then (m_X7_mayOf_20 x2 x3 w) else (Option.bind (m_X7_it x1 0 w) fun u_6 => (if u_6 = 5 then (m_X7_mayOf_20 x2 x3 w) else (m_X7_mayOf_35 x2 x3 w))))
abbrev r_X7_mayOf : Room := { frames := 1, cells := 0, slots := 0, locals := 22 }
set_option maxHeartbeats 4000000 in
set_option maxRecDepth 100000 in
theorem c_X7_mayOf (l : Launch) (E : pv_E) (a0 a1 a2 a3 a4 a5 a6 a7 a8 a9 a10 : Nat) (x1 : Int32) (x2 : Int32) (x3 : Int32) (w : pv_MT) (F : Int32) (hq : m_X7_mayOf x1 x2 x3 w = some F) : pv_RO l E yX7_mayOf wsX7_mayOf r_X7_mayOf (pv_wM E a0 a1 a2 a3 a4 a5 a6 a7 a8 a9 a10 w) [.ref a0, .int x1, .int x2, .int x3] (some (.int F)) := by
  intro sz
  refine pv_mk (by decide) rfl (Nat.le_of_ble_eq_true rfl) ?_
  intro p e s m args below meth c A hx hb hr hml hown hts hlk hAe hP hD0 hA hE hS ls hl
  have hown : s.vm.findClass RX7 = some m.cls := hown
  have hK := hE.1
  have hD := hD0
  have fl_9 : (Cond.fieldLink RX7 9 "ProvinceCardsModel" "m" "[I").before args s = true := hts _ (by decide +kernel)
  have i_RX7 : ∀ w ∈ wsX70, w ∈ wsX7_mayOf := by decide +kernel
  have hl : lv_has ls 6 [(0, .ref a0), (1, .int x1), (2, .int x2), (3, .int x3)] := hl
  have B_36 : ∀ (x2 : Int32) (x3 : Int32) (y0 : Int32) (locs : List Loc) (ls : Array Slot), va_S A s.heap s.heap locs → lv_has ls 6 [(2, .int x2), (3, .int x3)] → m_X7_mayOf_36 x2 x3 y0 w = some F → W p l e r_X7_mayOf s m args below meth c s.heap locs 0 0 (MQ below (pv_Ro (some (.int F))) args s 0 0 A) (F0 m 36 ls [.int y0]) := by
    intro x2 x3 y0 locs ls hS hl hq
    refine lv_istore (pc := 36) (lv' := [(4, .int y0), (2, .int x2), (3, .int x3)]) hx hb dX7_mayOf_36 hl (Nat.le_of_ble_eq_true rfl) rfl (fun ls hl => ?_)
    refine lv_iload_n (pc := 38) hx hb dX7_mayOf_38 rfl (lv_at hl 1 rfl) ?_
    refine lv_sipush (pc := 39) (v := 255) hx hb dX7_mayOf_39 (by decide) ?_
    refine lv_bipush (pc := 42) (v := 8) hx hb dX7_mayOf_42 (by decide) ?_
    refine lv_iload_n (pc := 44) hx hb dX7_mayOf_44 rfl (lv_at hl 2 rfl) ?_
    refine lv_bipush (pc := 45) (v := 8) hx hb dX7_mayOf_45 (by decide) ?_
    refine lv_idiv (pc := 47) hx hb dX7_mayOf_47 (by decide) ?_
    refine lv_imul (pc := 48) hx hb dX7_mayOf_48 ?_
    refine lv_ishl (pc := 49) hx hb dX7_mayOf_49 ?_
    refine lv_iand (pc := 50) hx hb dX7_mayOf_50 ?_
    refine lv_istore (pc := 51) (lv' := [(5, .int (x2 &&& ((255 : Int32) <<< ((8 * (x3 / 8)) &&& 31)))), (4, .int y0), (2, .int x2), (3, .int x3)]) hx hb dX7_mayOf_51 hl (Nat.le_of_ble_eq_true rfl) rfl (fun ls hl => ?_)
    refine lv_iload (pc := 53) hx hb dX7_mayOf_53 (lv_at hl 1 rfl) ?_
    refine lv_if_ne (pc := 55) (tgt := 63) hx hb dX7_mayOf_55 (by decide) (fun c_4 => ?_) (fun c_4 => ?_)
    · have hq := pv_neg c_4 hq
      refine lv_iload_n (pc := 63) hx hb dX7_mayOf_63 rfl (lv_at hl 2 rfl) ?_
      refine lv_goto (pc := 64) (tgt := 69) hx hb dX7_mayOf_64 (by decide) ?_
      exact pv_riRO hx hb hr hlk hS (Option.some.inj hq) dX7_mayOf_69
    · have hq := pv_pos c_4 hq
      refine lv_iload (pc := 58) hx hb dX7_mayOf_58 (lv_at hl 0 rfl) ?_
      refine lv_if_ne (pc := 60) (tgt := 67) hx hb dX7_mayOf_60 (by decide) (fun c_5 => ?_) (fun c_5 => ?_)
      · have hq := pv_neg c_5 hq
        refine lv_iload (pc := 67) hx hb dX7_mayOf_67 (lv_at hl 0 rfl) ?_
        exact pv_riRO hx hb hr hlk hS (Option.some.inj hq) dX7_mayOf_69
      · have hq := pv_pos c_5 hq
        refine lv_iload_n (pc := 63) hx hb dX7_mayOf_63 rfl (lv_at hl 2 rfl) ?_
        refine lv_goto (pc := 64) (tgt := 69) hx hb dX7_mayOf_64 (by decide) ?_
        exact pv_riRO hx hb hr hlk hS (Option.some.inj hq) dX7_mayOf_69
  have B_35 : ∀ (x2 : Int32) (x3 : Int32) (locs : List Loc) (ls : Array Slot), va_S A s.heap s.heap locs → lv_has ls 6 [(2, .int x2), (3, .int x3)] → m_X7_mayOf_35 x2 x3 w = some F → W p l e r_X7_mayOf s m args below meth c s.heap locs 0 0 (MQ below (pv_Ro (some (.int F))) args s 0 0 A) (F0 m 35 ls []) := by
    intro x2 x3 locs ls hS hl hq
    refine lv_iconst (pc := 35) (v := 0) hx hb dX7_mayOf_35 (by decide) ?_
    exact B_36 x2 x3 0 locs ls hS (lv_sub hl [0, 1] rfl) hq
  have B_20 : ∀ (x2 : Int32) (x3 : Int32) (locs : List Loc) (ls : Array Slot), va_S A s.heap s.heap locs → lv_has ls 6 [(0, .ref a0), (2, .int x2), (3, .int x3)] → m_X7_mayOf_20 x2 x3 w = some F → W p l e r_X7_mayOf s m args below meth c s.heap locs 0 0 (MQ below (pv_Ro (some (.int F))) args s 0 0 A) (F0 m 20 ls []) := by
    intro x2 x3 locs ls hS hl hq
    refine lv_aload_n (pc := 20) hx hb dX7_mayOf_20 rfl (lv_at hl 0 rfl) ?_
    refine va_get (pc := 21) (D := E.1) (ci := 5) (v := .ref a1) (C := RX7) (T := TX7) (N := 17) hx hb hts i_RX7 hown hK hP 0 rfl rfl 0 (Nat.le_of_ble_eq_true rfl) fl_9 (fun _ h9 => h9) rfl dX7_mayOf_21 ?_
    refine lv_iconst (pc := 24) (v := 0) hx hb dX7_mayOf_24 (by decide) ?_
    refine va_iald (pc := 25) (D := E.1) hx hb hK hP 1 0 rfl rfl (by decide : ¬ ((0 : Int32) < 0 ∨ 31 ≤ (0 : Int32).toNatClampNeg)) dX7_mayOf_25 ?_
    refine W.eq (g2 := F0 m 26 ls [.int (w.1 0)]) rfl ?_
    refine lv_iconst (pc := 26) (v := 3) hx hb dX7_mayOf_26 (by decide) ?_
    refine pv_irem (pc := 27) hx hb dX7_mayOf_27 (by decide) ?_
    refine lv_if_ne (pc := 28) (tgt := 35) hx hb dX7_mayOf_28 (by decide) (fun c_3 => ?_) (fun c_3 => ?_)
    · have hq := pv_neg c_3 hq
      exact B_35 x2 x3 locs ls hS (lv_sub hl [1, 2] rfl) hq
    · have hq := pv_pos c_3 hq
      refine lv_iconst (pc := 31) (v := 1) hx hb dX7_mayOf_31 (by decide) ?_
      refine lv_goto (pc := 32) (tgt := 36) hx hb dX7_mayOf_32 (by decide) ?_
      exact B_36 x2 x3 1 locs ls hS (lv_sub hl [1, 2] rfl) hq
  suffices M0 : ∀ (locs : List Loc), va_S A s.heap s.heap locs → W p l e r_X7_mayOf s m args below meth c s.heap locs 0 0 (MQ below (pv_Ro (some (.int F))) args s 0 0 A) (F0 m 0 ls []) from M0 [] hS
  intro locs hS
  refine lv_aload_n (pc := 0) hx hb dX7_mayOf_0 rfl (lv_at hl 0 rfl) ?_
  refine lv_iload_n (pc := 1) hx hb dX7_mayOf_1 rfl (lv_at hl 1 rfl) ?_
  refine lv_iconst (pc := 2) (v := 0) hx hb dX7_mayOf_2 (by decide) ?_
  obtain ⟨u_1, hu_1, hq⟩ := pv_bind hq
  refine pv_vROf (pc := 3) (rest := []) (st1 := [.int u_1]) (ws := pv_wM E a0 a1 a2 a3 a4 a5 a6 a7 a8 a9 a10 w) [.int x1, .int 0] ⟨hx, hb, hml, hown, hts⟩ hE hA hS hP hD (c_X7_it l E a0 a1 a2 a3 a4 a5 a6 a7 a8 a9 a10 x1 0 w u_1 hu_1) (cwV 2 hts gX7_mayOf_X7_it rfl rfl rfl (by decide +kernel) ⟨(Nat.le_of_ble_eq_true rfl), (Nat.le_of_ble_eq_true rfl)⟩) (va_recv hK hP (ci := 5) (q0 := 0) rfl rfl) rfl hl.1 rfl rfl (Nat.le_of_ble_eq_true rfl) dX7_mayOf_3 ⟨Nat.zero_le _, Nat.zero_le _⟩ (fun locs hS => ?_)
  refine lv_iconst (pc := 6) (v := 2) hx hb dX7_mayOf_6 (by decide) ?_
  refine lv_icmp_eq (pc := 7) (tgt := 20) hx hb dX7_mayOf_7 (by decide) (fun c_2 => ?_) (fun c_2 => ?_)
  · have hq := pv_pos c_2 hq
    exact B_20 x2 x3 locs ls hS (lv_sub hl [0, 2, 3] rfl) hq
  · have hq := pv_neg c_2 hq
    refine lv_aload_n (pc := 10) hx hb dX7_mayOf_10 rfl (lv_at hl 0 rfl) ?_
    refine lv_iload_n (pc := 11) hx hb dX7_mayOf_11 rfl (lv_at hl 1 rfl) ?_
    refine lv_iconst (pc := 12) (v := 0) hx hb dX7_mayOf_12 (by decide) ?_
    obtain ⟨u_6, hu_6, hq⟩ := pv_bind hq
    refine pv_vROf (pc := 13) (rest := []) (st1 := [.int u_6]) (ws := pv_wM E a0 a1 a2 a3 a4 a5 a6 a7 a8 a9 a10 w) [.int x1, .int 0] ⟨hx, hb, hml, hown, hts⟩ hE hA hS hP hD (c_X7_it l E a0 a1 a2 a3 a4 a5 a6 a7 a8 a9 a10 x1 0 w u_6 hu_6) (cwV 2 hts gX7_mayOf_X7_it rfl rfl rfl (by decide +kernel) ⟨(Nat.le_of_ble_eq_true rfl), (Nat.le_of_ble_eq_true rfl)⟩) (va_recv hK hP (ci := 5) (q0 := 0) rfl rfl) rfl hl.1 rfl rfl (Nat.le_of_ble_eq_true rfl) dX7_mayOf_13 ⟨Nat.zero_le _, Nat.zero_le _⟩ (fun locs hS => ?_)
    refine lv_iconst (pc := 16) (v := 5) hx hb dX7_mayOf_16 (by decide) ?_
    refine lv_icmp_ne (pc := 17) (tgt := 35) hx hb dX7_mayOf_17 (by decide) (fun c_7 => ?_) (fun c_7 => ?_)
    · have hq := pv_neg c_7 hq
      exact B_35 x2 x3 locs ls hS (lv_sub hl [2, 3] rfl) hq
    · have hq := pv_pos c_7 hq
      exact B_20 x2 x3 locs ls hS (lv_sub hl [0, 2, 3] rfl) hq
def m_X7_followedBy_30 (x1 : Int32) (x3 : Int32) (x4 : Int32) (x5 : Int32) (y0 : Int32) (w : pv_MT) : Option (Int32) :=
  Option.bind (m_X7_lowest y0) fun u_4 => (Option.bind (m_X7_it x1 0 w) fun u_5 => (if u_5 = 1 then (Option.bind (m_X7_lowest x4) fun u_7 => (some u_7)) else if u_5 = 2 then (some u_4) else if u_5 = 3 then (if (x4 &&& (x5 ^^^ (-1))) = 0 then (Option.bind (m_X7_lowest x4) fun u_12 => (some u_12)) else (Option.bind (m_X7_highest (x4 &&& (x5 ^^^ (-1)))) fun u_11 => (some u_11))) else if u_5 = 4 then (Option.bind (m_X7_isTrump x3 w) fun u_14 => (if u_14 = 0 then (Option.bind (m_X7_lowest x4) fun u_16 => (some u_16)) else (some u_4))) else if u_5 = 5 then (if x5 = 0 then (Option.bind (m_X7_lowest x4) fun u_20 => (some u_20)) else (Option.bind (m_X7_highest x5) fun u_19 => (some u_19))) else (some u_4)))
def m_X7_followedBy (x1 : Int32) (x2 : Int32) (x3 : Int32) (w : pv_MT) : Option (Int32) :=
  Option.bind (m_X7_mayOf x1 x2 x3 w) fun u_1 => (Option.bind (m_X7_beaters u_1 x3 w) fun u_2 => (if u_2 = 0 then (m_X7_followedBy_30 x1 x3 u_1 u_2 u_1 w) else (m_X7_followedBy_30 x1 x3 u_1 u_2 u_2 w)))
abbrev r_X7_followedBy : Room := { frames := 3, cells := 0, slots := 0, locals := 67 }
set_option maxHeartbeats 4000000 in
set_option maxRecDepth 100000 in
theorem c_X7_followedBy (l : Launch) (E : pv_E) (a0 a1 a2 a3 a4 a5 a6 a7 a8 a9 a10 : Nat) (x1 : Int32) (x2 : Int32) (x3 : Int32) (w : pv_MT) (F : Int32) (hq : m_X7_followedBy x1 x2 x3 w = some F) : pv_RO l E yX7_followedBy wsX7_followedBy r_X7_followedBy (pv_wM E a0 a1 a2 a3 a4 a5 a6 a7 a8 a9 a10 w) [.ref a0, .int x1, .int x2, .int x3] (some (.int F)) := by
  intro sz
  refine pv_mk (by decide) rfl (Nat.le_of_ble_eq_true rfl) ?_
  intro p e s m args below meth c A hx hb hr hml hown hts hlk hAe hP hD0 hA hE hS ls hl
  have hown : s.vm.findClass RX7 = some m.cls := hown
  have hK := hE.1
  have hD := hD0
  have hl : lv_has ls 8 [(0, .ref a0), (1, .int x1), (2, .int x2), (3, .int x3)] := hl
  have B_30 : ∀ (x1 : Int32) (x3 : Int32) (x4 : Int32) (x5 : Int32) (y0 : Int32) (locs : List Loc) (ls : Array Slot), va_S A s.heap s.heap locs → lv_has ls 8 [(0, .ref a0), (1, .int x1), (3, .int x3), (4, .int x4), (5, .int x5)] → m_X7_followedBy_30 x1 x3 x4 x5 y0 w = some F → W p l e r_X7_followedBy s m args below meth c s.heap locs 0 0 (MQ below (pv_Ro (some (.int F))) args s 0 0 A) (F0 m 30 ls [.int y0]) := by
    intro x1 x3 x4 x5 y0 locs ls hS hl hq
    obtain ⟨u_4, hu_4, hq⟩ := pv_bind hq
    refine pv_sRO (pc := 30) (rest := []) (st1 := [.int u_4]) (ws := pv_wM E a0 a1 a2 a3 a4 a5 a6 a7 a8 a9 a10 w) [.int y0] ⟨hx, hb, hml, hown, hts⟩ hE hA hS hP hD (c_X7_lowest l E y0 u_4 hu_4) (va_cwS 1 hts gX7_followedBy_X7_lowest rfl rfl rfl (by decide +kernel) ⟨(Nat.le_of_ble_eq_true rfl), (Nat.le_of_ble_eq_true rfl)⟩) [] rfl rfl rfl hl.1 rfl rfl (Nat.le_of_ble_eq_true rfl) dX7_followedBy_30 ⟨Nat.zero_le _, Nat.zero_le _⟩ (fun locs hS => ?_)
    refine lv_istore (pc := 33) (lv' := [(6, .int u_4), (0, .ref a0), (1, .int x1), (3, .int x3), (4, .int x4), (5, .int x5)]) hx hb dX7_followedBy_33 hl (Nat.le_of_ble_eq_true rfl) rfl (fun ls hl => ?_)
    refine lv_iload (pc := 35) hx hb dX7_followedBy_35 (lv_at hl 4 rfl) ?_
    refine lv_iload (pc := 37) hx hb dX7_followedBy_37 (lv_at hl 5 rfl) ?_
    refine lv_iconst (pc := 39) (v := (-1)) hx hb dX7_followedBy_39 (by decide) ?_
    refine lv_ixor (pc := 40) hx hb dX7_followedBy_40 ?_
    refine lv_iand (pc := 41) hx hb dX7_followedBy_41 ?_
    refine lv_istore (pc := 42) (lv' := [(7, .int (x4 &&& (x5 ^^^ (-1)))), (6, .int u_4), (0, .ref a0), (1, .int x1), (3, .int x3), (4, .int x4), (5, .int x5)]) hx hb dX7_followedBy_42 hl (Nat.le_of_ble_eq_true rfl) rfl (fun ls hl => ?_)
    refine lv_aload_n (pc := 44) hx hb dX7_followedBy_44 rfl (lv_at hl 2 rfl) ?_
    refine lv_iload_n (pc := 45) hx hb dX7_followedBy_45 rfl (lv_at hl 3 rfl) ?_
    refine lv_iconst (pc := 46) (v := 0) hx hb dX7_followedBy_46 (by decide) ?_
    obtain ⟨u_5, hu_5, hq⟩ := pv_bind hq
    refine pv_vROf (pc := 47) (rest := []) (st1 := [.int u_5]) (ws := pv_wM E a0 a1 a2 a3 a4 a5 a6 a7 a8 a9 a10 w) [.int x1, .int 0] ⟨hx, hb, hml, hown, hts⟩ hE hA hS hP hD (c_X7_it l E a0 a1 a2 a3 a4 a5 a6 a7 a8 a9 a10 x1 0 w u_5 hu_5) (cwV 2 hts gX7_followedBy_X7_it rfl rfl rfl (by decide +kernel) ⟨(Nat.le_of_ble_eq_true rfl), (Nat.le_of_ble_eq_true rfl)⟩) (va_recv hK hP (ci := 5) (q0 := 0) rfl rfl) rfl hl.1 rfl rfl (Nat.le_of_ble_eq_true rfl) dX7_followedBy_47 ⟨Nat.zero_le _, Nat.zero_le _⟩ (fun locs hS => ?_)
    by_cases c_6 : u_5 = 1
    · have hq := pv_pos c_6 hq
      refine lv_tableIn (pc := 50) (tgt := 84) (off := 34) hx hb dX7_followedBy_50 (by rw [c_6]; decide) (by rw [c_6]; decide) (by rw [c_6]; rfl) (by decide) ?_
      refine lv_iload (pc := 84) hx hb dX7_followedBy_84 (lv_at hl 5 rfl) ?_
      obtain ⟨u_7, hu_7, hq⟩ := pv_bind hq
      refine pv_sRO (pc := 86) (rest := []) (st1 := [.int u_7]) (ws := pv_wM E a0 a1 a2 a3 a4 a5 a6 a7 a8 a9 a10 w) [.int x4] ⟨hx, hb, hml, hown, hts⟩ hE hA hS hP hD (c_X7_lowest l E x4 u_7 hu_7) (va_cwS 1 hts gX7_followedBy_X7_lowest rfl rfl rfl (by decide +kernel) ⟨(Nat.le_of_ble_eq_true rfl), (Nat.le_of_ble_eq_true rfl)⟩) [] rfl rfl rfl hl.1 rfl rfl (Nat.le_of_ble_eq_true rfl) dX7_followedBy_86 ⟨Nat.zero_le _, Nat.zero_le _⟩ (fun locs hS => ?_)
      exact pv_riRO hx hb hr hlk hS (Option.some.inj hq) dX7_followedBy_89
    have hq := pv_neg c_6 hq
    by_cases c_8 : u_5 = 2
    · have hq := pv_pos c_8 hq
      refine lv_tableIn (pc := 50) (tgt := 147) (off := 97) hx hb dX7_followedBy_50 (by rw [c_8]; decide) (by rw [c_8]; decide) (by rw [c_8]; rfl) (by decide) ?_
      refine lv_iload (pc := 147) hx hb dX7_followedBy_147 (lv_at hl 1 rfl) ?_
      exact pv_riRO hx hb hr hlk hS (Option.some.inj hq) dX7_followedBy_149
    have hq := pv_neg c_8 hq
    by_cases c_9 : u_5 = 3
    · have hq := pv_pos c_9 hq
      refine lv_tableIn (pc := 50) (tgt := 90) (off := 40) hx hb dX7_followedBy_50 (by rw [c_9]; decide) (by rw [c_9]; decide) (by rw [c_9]; rfl) (by decide) ?_
      refine lv_iload (pc := 90) hx hb dX7_followedBy_90 (lv_at hl 0 rfl) ?_
      refine lv_if_ne (pc := 92) (tgt := 103) hx hb dX7_followedBy_92 (by decide) (fun c_10 => ?_) (fun c_10 => ?_)
      · have hq := pv_neg c_10 hq
        refine lv_iload (pc := 103) hx hb dX7_followedBy_103 (lv_at hl 0 rfl) ?_
        obtain ⟨u_11, hu_11, hq⟩ := pv_bind hq
        refine pv_sRO (pc := 105) (rest := []) (st1 := [.int u_11]) (ws := pv_wM E a0 a1 a2 a3 a4 a5 a6 a7 a8 a9 a10 w) [.int (x4 &&& (x5 ^^^ (-1)))] ⟨hx, hb, hml, hown, hts⟩ hE hA hS hP hD (c_X7_highest l E (x4 &&& (x5 ^^^ (-1))) u_11 hu_11) (va_cwS 1 hts gX7_followedBy_X7_highest rfl rfl rfl (by decide +kernel) ⟨(Nat.le_of_ble_eq_true rfl), (Nat.le_of_ble_eq_true rfl)⟩) [] rfl rfl rfl hl.1 rfl rfl (Nat.le_of_ble_eq_true rfl) dX7_followedBy_105 ⟨Nat.zero_le _, Nat.zero_le _⟩ (fun locs hS => ?_)
        exact pv_riRO hx hb hr hlk hS (Option.some.inj hq) dX7_followedBy_108
      · have hq := pv_pos c_10 hq
        refine lv_iload (pc := 95) hx hb dX7_followedBy_95 (lv_at hl 5 rfl) ?_
        obtain ⟨u_12, hu_12, hq⟩ := pv_bind hq
        refine pv_sRO (pc := 97) (rest := []) (st1 := [.int u_12]) (ws := pv_wM E a0 a1 a2 a3 a4 a5 a6 a7 a8 a9 a10 w) [.int x4] ⟨hx, hb, hml, hown, hts⟩ hE hA hS hP hD (c_X7_lowest l E x4 u_12 hu_12) (va_cwS 1 hts gX7_followedBy_X7_lowest rfl rfl rfl (by decide +kernel) ⟨(Nat.le_of_ble_eq_true rfl), (Nat.le_of_ble_eq_true rfl)⟩) [] rfl rfl rfl hl.1 rfl rfl (Nat.le_of_ble_eq_true rfl) dX7_followedBy_97 ⟨Nat.zero_le _, Nat.zero_le _⟩ (fun locs hS => ?_)
        refine lv_goto (pc := 100) (tgt := 108) hx hb dX7_followedBy_100 (by decide) ?_
        exact pv_riRO hx hb hr hlk hS (Option.some.inj hq) dX7_followedBy_108
    have hq := pv_neg c_9 hq
    by_cases c_13 : u_5 = 4
    · have hq := pv_pos c_13 hq
      refine lv_tableIn (pc := 50) (tgt := 109) (off := 59) hx hb dX7_followedBy_50 (by rw [c_13]; decide) (by rw [c_13]; decide) (by rw [c_13]; rfl) (by decide) ?_
      refine lv_aload_n (pc := 109) hx hb dX7_followedBy_109 rfl (lv_at hl 2 rfl) ?_
      refine lv_iload_n (pc := 110) hx hb dX7_followedBy_110 rfl (lv_at hl 4 rfl) ?_
      obtain ⟨u_14, hu_14, hq⟩ := pv_bind hq
      refine pv_vROf (pc := 111) (rest := []) (st1 := [.int u_14]) (ws := pv_wM E a0 a1 a2 a3 a4 a5 a6 a7 a8 a9 a10 w) [.int x3] ⟨hx, hb, hml, hown, hts⟩ hE hA hS hP hD (c_X7_isTrump l E a0 a1 a2 a3 a4 a5 a6 a7 a8 a9 a10 x3 w u_14 hu_14) (cwV 1 hts gX7_followedBy_X7_isTrump rfl rfl rfl (by decide +kernel) ⟨(Nat.le_of_ble_eq_true rfl), (Nat.le_of_ble_eq_true rfl)⟩) (va_recv hK hP (ci := 5) (q0 := 0) rfl rfl) rfl hl.1 rfl rfl (Nat.le_of_ble_eq_true rfl) dX7_followedBy_111 ⟨Nat.zero_le _, Nat.zero_le _⟩ (fun locs hS => ?_)
      refine lv_if_eq (pc := 114) (tgt := 122) hx hb dX7_followedBy_114 (by decide) (fun c_15 => ?_) (fun c_15 => ?_)
      · have hq := pv_pos c_15 hq
        refine lv_iload (pc := 122) hx hb dX7_followedBy_122 (lv_at hl 5 rfl) ?_
        obtain ⟨u_16, hu_16, hq⟩ := pv_bind hq
        refine pv_sRO (pc := 124) (rest := []) (st1 := [.int u_16]) (ws := pv_wM E a0 a1 a2 a3 a4 a5 a6 a7 a8 a9 a10 w) [.int x4] ⟨hx, hb, hml, hown, hts⟩ hE hA hS hP hD (c_X7_lowest l E x4 u_16 hu_16) (va_cwS 1 hts gX7_followedBy_X7_lowest rfl rfl rfl (by decide +kernel) ⟨(Nat.le_of_ble_eq_true rfl), (Nat.le_of_ble_eq_true rfl)⟩) [] rfl rfl rfl hl.1 rfl rfl (Nat.le_of_ble_eq_true rfl) dX7_followedBy_124 ⟨Nat.zero_le _, Nat.zero_le _⟩ (fun locs hS => ?_)
        exact pv_riRO hx hb hr hlk hS (Option.some.inj hq) dX7_followedBy_127
      · have hq := pv_neg c_15 hq
        refine lv_iload (pc := 117) hx hb dX7_followedBy_117 (lv_at hl 1 rfl) ?_
        refine lv_goto (pc := 119) (tgt := 127) hx hb dX7_followedBy_119 (by decide) ?_
        exact pv_riRO hx hb hr hlk hS (Option.some.inj hq) dX7_followedBy_127
    have hq := pv_neg c_13 hq
    by_cases c_17 : u_5 = 5
    · have hq := pv_pos c_17 hq
      refine lv_tableIn (pc := 50) (tgt := 128) (off := 78) hx hb dX7_followedBy_50 (by rw [c_17]; decide) (by rw [c_17]; decide) (by rw [c_17]; rfl) (by decide) ?_
      refine lv_iload (pc := 128) hx hb dX7_followedBy_128 (lv_at hl 6 rfl) ?_
      refine lv_if_ne (pc := 130) (tgt := 141) hx hb dX7_followedBy_130 (by decide) (fun c_18 => ?_) (fun c_18 => ?_)
      · have hq := pv_neg c_18 hq
        refine lv_iload (pc := 141) hx hb dX7_followedBy_141 (lv_at hl 6 rfl) ?_
        obtain ⟨u_19, hu_19, hq⟩ := pv_bind hq
        refine pv_sRO (pc := 143) (rest := []) (st1 := [.int u_19]) (ws := pv_wM E a0 a1 a2 a3 a4 a5 a6 a7 a8 a9 a10 w) [.int x5] ⟨hx, hb, hml, hown, hts⟩ hE hA hS hP hD (c_X7_highest l E x5 u_19 hu_19) (va_cwS 1 hts gX7_followedBy_X7_highest rfl rfl rfl (by decide +kernel) ⟨(Nat.le_of_ble_eq_true rfl), (Nat.le_of_ble_eq_true rfl)⟩) [] rfl rfl rfl hl.1 rfl rfl (Nat.le_of_ble_eq_true rfl) dX7_followedBy_143 ⟨Nat.zero_le _, Nat.zero_le _⟩ (fun locs hS => ?_)
        exact pv_riRO hx hb hr hlk hS (Option.some.inj hq) dX7_followedBy_146
      · have hq := pv_pos c_18 hq
        refine lv_iload (pc := 133) hx hb dX7_followedBy_133 (lv_at hl 5 rfl) ?_
        obtain ⟨u_20, hu_20, hq⟩ := pv_bind hq
        refine pv_sRO (pc := 135) (rest := []) (st1 := [.int u_20]) (ws := pv_wM E a0 a1 a2 a3 a4 a5 a6 a7 a8 a9 a10 w) [.int x4] ⟨hx, hb, hml, hown, hts⟩ hE hA hS hP hD (c_X7_lowest l E x4 u_20 hu_20) (va_cwS 1 hts gX7_followedBy_X7_lowest rfl rfl rfl (by decide +kernel) ⟨(Nat.le_of_ble_eq_true rfl), (Nat.le_of_ble_eq_true rfl)⟩) [] rfl rfl rfl hl.1 rfl rfl (Nat.le_of_ble_eq_true rfl) dX7_followedBy_135 ⟨Nat.zero_le _, Nat.zero_le _⟩ (fun locs hS => ?_)
        refine lv_goto (pc := 138) (tgt := 146) hx hb dX7_followedBy_138 (by decide) ?_
        exact pv_riRO hx hb hr hlk hS (Option.some.inj hq) dX7_followedBy_146
    have hq := pv_neg c_17 hq
    refine lv_tableOut (pc := 50) (tgt := 147) hx hb dX7_followedBy_50 (pv_swr (x := u_5) 1 5 (fun k h1 h2 => (fun e7 => Or.elim e7 (fun e8 e9 => c_6 ((e9.trans (congrArg Int32.ofInt e8)).trans (by decide))) (fun e7 => Or.elim e7 (fun e8 e9 => c_8 ((e9.trans (congrArg Int32.ofInt e8)).trans (by decide))) (fun e7 => Or.elim e7 (fun e8 e9 => c_9 ((e9.trans (congrArg Int32.ofInt e8)).trans (by decide))) (fun e7 => Or.elim e7 (fun e8 e9 => c_13 ((e9.trans (congrArg Int32.ofInt e8)).trans (by decide))) (fun e8 e9 => c_17 ((e9.trans (congrArg Int32.ofInt e8)).trans (by decide))))))) (show k = 1 ∨ k = 2 ∨ k = 3 ∨ k = 4 ∨ k = 5 by omega))) (by decide) ?_
    refine lv_iload (pc := 147) hx hb dX7_followedBy_147 (lv_at hl 1 rfl) ?_
    exact pv_riRO hx hb hr hlk hS (Option.some.inj hq) dX7_followedBy_149
  suffices M0 : ∀ (locs : List Loc), va_S A s.heap s.heap locs → W p l e r_X7_followedBy s m args below meth c s.heap locs 0 0 (MQ below (pv_Ro (some (.int F))) args s 0 0 A) (F0 m 0 ls []) from M0 [] hS
  intro locs hS
  refine lv_aload_n (pc := 0) hx hb dX7_followedBy_0 rfl (lv_at hl 0 rfl) ?_
  refine lv_iload_n (pc := 1) hx hb dX7_followedBy_1 rfl (lv_at hl 1 rfl) ?_
  refine lv_iload_n (pc := 2) hx hb dX7_followedBy_2 rfl (lv_at hl 2 rfl) ?_
  refine lv_iload_n (pc := 3) hx hb dX7_followedBy_3 rfl (lv_at hl 3 rfl) ?_
  obtain ⟨u_1, hu_1, hq⟩ := pv_bind hq
  refine pv_vROf (pc := 4) (rest := []) (st1 := [.int u_1]) (ws := pv_wM E a0 a1 a2 a3 a4 a5 a6 a7 a8 a9 a10 w) [.int x1, .int x2, .int x3] ⟨hx, hb, hml, hown, hts⟩ hE hA hS hP hD (c_X7_mayOf l E a0 a1 a2 a3 a4 a5 a6 a7 a8 a9 a10 x1 x2 x3 w u_1 hu_1) (cwV 3 hts gX7_followedBy_X7_mayOf rfl rfl rfl (by decide +kernel) ⟨(Nat.le_of_ble_eq_true rfl), (Nat.le_of_ble_eq_true rfl)⟩) (va_recv hK hP (ci := 5) (q0 := 0) rfl rfl) rfl hl.1 rfl rfl (Nat.le_of_ble_eq_true rfl) dX7_followedBy_4 ⟨Nat.zero_le _, Nat.zero_le _⟩ (fun locs hS => ?_)
  refine lv_istore (pc := 7) (lv' := [(4, .int u_1), (0, .ref a0), (1, .int x1), (2, .int x2), (3, .int x3)]) hx hb dX7_followedBy_7 hl (Nat.le_of_ble_eq_true rfl) rfl (fun ls hl => ?_)
  refine lv_aload_n (pc := 9) hx hb dX7_followedBy_9 rfl (lv_at hl 1 rfl) ?_
  refine lv_iload (pc := 10) hx hb dX7_followedBy_10 (lv_at hl 0 rfl) ?_
  refine lv_iload_n (pc := 12) hx hb dX7_followedBy_12 rfl (lv_at hl 4 rfl) ?_
  obtain ⟨u_2, hu_2, hq⟩ := pv_bind hq
  refine pv_vROf (pc := 13) (rest := []) (st1 := [.int u_2]) (ws := pv_wM E a0 a1 a2 a3 a4 a5 a6 a7 a8 a9 a10 w) [.int u_1, .int x3] ⟨hx, hb, hml, hown, hts⟩ hE hA hS hP hD (c_X7_beaters l E a0 a1 a2 a3 a4 a5 a6 a7 a8 a9 a10 u_1 x3 w u_2 hu_2) (cwV 2 hts gX7_followedBy_X7_beaters rfl rfl rfl (by decide +kernel) ⟨(Nat.le_of_ble_eq_true rfl), (Nat.le_of_ble_eq_true rfl)⟩) (va_recv hK hP (ci := 5) (q0 := 0) rfl rfl) rfl hl.1 rfl rfl (Nat.le_of_ble_eq_true rfl) dX7_followedBy_13 ⟨Nat.zero_le _, Nat.zero_le _⟩ (fun locs hS => ?_)
  refine lv_istore (pc := 16) (lv' := [(5, .int u_2), (4, .int u_1), (0, .ref a0), (1, .int x1), (2, .int x2), (3, .int x3)]) hx hb dX7_followedBy_16 hl (Nat.le_of_ble_eq_true rfl) rfl (fun ls hl => ?_)
  refine lv_iload (pc := 18) hx hb dX7_followedBy_18 (lv_at hl 0 rfl) ?_
  refine lv_if_ne (pc := 20) (tgt := 28) hx hb dX7_followedBy_20 (by decide) (fun c_3 => ?_) (fun c_3 => ?_)
  · have hq := pv_neg c_3 hq
    refine lv_iload (pc := 28) hx hb dX7_followedBy_28 (lv_at hl 0 rfl) ?_
    exact B_30 x1 x3 u_1 u_2 u_2 locs ls hS (lv_sub hl [2, 3, 5, 1, 0] rfl) hq
  · have hq := pv_pos c_3 hq
    refine lv_iload (pc := 23) hx hb dX7_followedBy_23 (lv_at hl 1 rfl) ?_
    refine lv_goto (pc := 25) (tgt := 30) hx hb dX7_followedBy_25 (by decide) ?_
    exact B_30 x1 x3 u_1 u_2 u_1 locs ls hS (lv_sub hl [2, 3, 5, 1, 0] rfl) hq
def m_X7_comesAs (x1 : Int32) (w : pv_MT) : Option (Int32 × pv_MT) :=
  pv_gd (15 + (2 * (w.1 2))) 31 (pv_gd ((15 + (2 * (w.1 2))) + 1) 31 (some ((w.1 2), ((upd (upd (upd w.1 2 ((w.1 2) + 1)) (15 + (2 * (w.1 2))).toNatClampNeg x1) ((15 + (2 * (w.1 2))) + 1).toNatClampNeg 0), w.2.1, w.2.2.1, w.2.2.2.1, w.2.2.2.2.1, w.2.2.2.2.2.1, w.2.2.2.2.2.2.1, w.2.2.2.2.2.2.2.1, w.2.2.2.2.2.2.2.2.1, w.2.2.2.2.2.2.2.2.2.1, w.2.2.2.2.2.2.2.2.2.2.1, w.2.2.2.2.2.2.2.2.2.2.2.1, w.2.2.2.2.2.2.2.2.2.2.2.2.1, w.2.2.2.2.2.2.2.2.2.2.2.2.2.1, w.2.2.2.2.2.2.2.2.2.2.2.2.2.2.1, w.2.2.2.2.2.2.2.2.2.2.2.2.2.2.2.1, w.2.2.2.2.2.2.2.2.2.2.2.2.2.2.2.2))))
abbrev r_X7_comesAs : Room := { frames := 0, cells := 0, slots := 0, locals := 0 }
set_option maxHeartbeats 4000000 in
set_option maxRecDepth 100000 in
theorem c_X7_comesAs (l : Launch) (E : pv_E) (a0 a1 a2 a3 a4 a5 a6 a7 a8 a9 a10 : Nat) (x1 : Int32) (w0 : pv_MT) (F : Int32 × pv_MT) (hq : m_X7_comesAs x1 w0 = some F) : pv_RW l E yX7_comesAs wsX7_comesAs r_X7_comesAs (pv_wM E a0 a1 a2 a3 a4 a5 a6 a7 a8 a9 a10 w0) [.ref a0, .int x1] (some (.int F.1)) (pv_wM E a0 a1 a2 a3 a4 a5 a6 a7 a8 a9 a10 F.2) := by
  intro sz
  refine pv_mk (by decide) rfl (Nat.le_of_ble_eq_true rfl) ?_
  intro p e s m args below meth c A hx hb hr hml hown hts hlk hAe hP hD0 hA hE hS ls hl
  have hown : s.vm.findClass RX7 = some m.cls := hown
  have hK := hE.1
  have hD : ∀ w : pv_MT, va_D A (pv_wM E a0 a1 a2 a3 a4 a5 a6 a7 a8 a9 a10 w) := fun w => pv_Dm (ws := pv_wM E a0 a1 a2 a3 a4 a5 a6 a7 a8 a9 a10 w0) (ws' := pv_wM E a0 a1 a2 a3 a4 a5 a6 a7 a8 a9 a10 w) rfl hD0
  have hP : va_P E.1 vwCl (pv_wM E a0 a1 a2 a3 a4 a5 a6 a7 a8 a9 a10 w0) s.heap := hP
  have fl_9 : (Cond.fieldLink RX7 9 "ProvinceCardsModel" "m" "[I").before args s = true := hts _ (by decide +kernel)
  have i_RX7 : ∀ w ∈ wsX70, w ∈ wsX7_comesAs := by decide +kernel
  have hl : lv_has ls 3 [(0, .ref a0), (1, .int x1)] := hl
  suffices M0 : ∀ (H : Heap) (locs : List Loc), va_P E.1 vwCl (pv_wM E a0 a1 a2 a3 a4 a5 a6 a7 a8 a9 a10 w0) H → va_S A s.heap H locs → W p l e r_X7_comesAs s m args below meth c H locs 0 0 (MQ below (pv_Rw E (pv_wM E a0 a1 a2 a3 a4 a5 a6 a7 a8 a9 a10 w0) sz (some (.int F.1)) ((fun w : pv_MT => pv_wM E a0 a1 a2 a3 a4 a5 a6 a7 a8 a9 a10 w) F.2)) args s 0 0 A) (F0 m 0 ls []) from M0 s.heap [] hP hS
  intro H locs hP hS
  refine lv_aload_n (pc := 0) hx hb dX7_comesAs_0 rfl (lv_at hl 0 rfl) ?_
  refine va_get (pc := 1) (D := E.1) (ci := 5) (v := .ref a1) (C := RX7) (T := TX7) (N := 17) hx hb hts i_RX7 hown hK hP 0 rfl rfl 0 (Nat.le_of_ble_eq_true rfl) fl_9 (fun _ h9 => h9) rfl dX7_comesAs_1 ?_
  refine lv_iconst (pc := 4) (v := 2) hx hb dX7_comesAs_4 (by decide) ?_
  refine va_iald (pc := 5) (D := E.1) hx hb hK hP 1 0 rfl rfl (by decide : ¬ ((2 : Int32) < 0 ∨ 31 ≤ (2 : Int32).toNatClampNeg)) dX7_comesAs_5 ?_
  refine W.eq (g2 := F0 m 6 ls [.int (w0.1 2)]) rfl ?_
  refine lv_istore_n (pc := 6) (lv' := [(2, .int (w0.1 2)), (0, .ref a0), (1, .int x1)]) hx hb dX7_comesAs_6 rfl hl (Nat.le_of_ble_eq_true rfl) rfl (fun ls hl => ?_)
  refine lv_aload_n (pc := 7) hx hb dX7_comesAs_7 rfl (lv_at hl 1 rfl) ?_
  refine va_get (pc := 8) (D := E.1) (ci := 5) (v := .ref a1) (C := RX7) (T := TX7) (N := 17) hx hb hts i_RX7 hown hK hP 0 rfl rfl 0 (Nat.le_of_ble_eq_true rfl) fl_9 (fun _ h9 => h9) rfl dX7_comesAs_8 ?_
  refine lv_iconst (pc := 11) (v := 2) hx hb dX7_comesAs_11 (by decide) ?_
  refine lv_dup2_11 (pc := 12) hx hb dX7_comesAs_12 rfl rfl ?_
  refine va_iald (pc := 13) (D := E.1) hx hb hK hP 1 0 rfl rfl (by decide : ¬ ((2 : Int32) < 0 ∨ 31 ≤ (2 : Int32).toNatClampNeg)) dX7_comesAs_13 ?_
  refine W.eq (g2 := F0 m 14 ls [.int (w0.1 2), .int 2, .ref a1]) rfl ?_
  refine lv_iconst (pc := 14) (v := 1) hx hb dX7_comesAs_14 (by decide) ?_
  refine lv_iadd (pc := 15) hx hb dX7_comesAs_15 ?_
  refine va_iast (pc := 16) (D := E.1) hx hb hK hP (hD w0) hS 1 0 rfl rfl (by decide : ¬ ((2 : Int32) < 0 ∨ 31 ≤ (2 : Int32).toNatClampNeg)) dX7_comesAs_16 (fun H locs hP _ hS => ?_)
  have hP : va_P E.1 vwCl (pv_wM E a0 a1 a2 a3 a4 a5 a6 a7 a8 a9 a10 ((upd w0.1 2 ((w0.1 2) + 1)), w0.2.1, w0.2.2.1, w0.2.2.2.1, w0.2.2.2.2.1, w0.2.2.2.2.2.1, w0.2.2.2.2.2.2.1, w0.2.2.2.2.2.2.2.1, w0.2.2.2.2.2.2.2.2.1, w0.2.2.2.2.2.2.2.2.2.1, w0.2.2.2.2.2.2.2.2.2.2.1, w0.2.2.2.2.2.2.2.2.2.2.2.1, w0.2.2.2.2.2.2.2.2.2.2.2.2.1, w0.2.2.2.2.2.2.2.2.2.2.2.2.2.1, w0.2.2.2.2.2.2.2.2.2.2.2.2.2.2.1, w0.2.2.2.2.2.2.2.2.2.2.2.2.2.2.2.1, w0.2.2.2.2.2.2.2.2.2.2.2.2.2.2.2.2)) H := hP
  refine lv_aload_n (pc := 17) hx hb dX7_comesAs_17 rfl (lv_at hl 1 rfl) ?_
  refine va_get (pc := 18) (D := E.1) (ci := 5) (v := .ref a1) (C := RX7) (T := TX7) (N := 17) hx hb hts i_RX7 hown hK hP 0 rfl rfl 0 (Nat.le_of_ble_eq_true rfl) fl_9 (fun _ h9 => h9) rfl dX7_comesAs_18 ?_
  refine lv_bipush (pc := 21) (v := 15) hx hb dX7_comesAs_21 (by decide) ?_
  refine lv_iconst (pc := 23) (v := 2) hx hb dX7_comesAs_23 (by decide) ?_
  refine lv_iload_n (pc := 24) hx hb dX7_comesAs_24 rfl (lv_at hl 0 rfl) ?_
  refine lv_imul (pc := 25) hx hb dX7_comesAs_25 ?_
  refine lv_iadd (pc := 26) hx hb dX7_comesAs_26 ?_
  refine lv_iload_n (pc := 27) hx hb dX7_comesAs_27 rfl (lv_at hl 2 rfl) ?_
  obtain ⟨h_1, hq⟩ := pv_gd_some hq
  refine va_iast (pc := 28) (D := E.1) hx hb hK hP (hD ((upd w0.1 2 ((w0.1 2) + 1)), w0.2.1, w0.2.2.1, w0.2.2.2.1, w0.2.2.2.2.1, w0.2.2.2.2.2.1, w0.2.2.2.2.2.2.1, w0.2.2.2.2.2.2.2.1, w0.2.2.2.2.2.2.2.2.1, w0.2.2.2.2.2.2.2.2.2.1, w0.2.2.2.2.2.2.2.2.2.2.1, w0.2.2.2.2.2.2.2.2.2.2.2.1, w0.2.2.2.2.2.2.2.2.2.2.2.2.1, w0.2.2.2.2.2.2.2.2.2.2.2.2.2.1, w0.2.2.2.2.2.2.2.2.2.2.2.2.2.2.1, w0.2.2.2.2.2.2.2.2.2.2.2.2.2.2.2.1, w0.2.2.2.2.2.2.2.2.2.2.2.2.2.2.2.2)) hS 1 0 rfl rfl h_1 dX7_comesAs_28 (fun H locs hP _ hS => ?_)
  have hP : va_P E.1 vwCl (pv_wM E a0 a1 a2 a3 a4 a5 a6 a7 a8 a9 a10 ((upd (upd w0.1 2 ((w0.1 2) + 1)) (15 + (2 * (w0.1 2))).toNatClampNeg x1), w0.2.1, w0.2.2.1, w0.2.2.2.1, w0.2.2.2.2.1, w0.2.2.2.2.2.1, w0.2.2.2.2.2.2.1, w0.2.2.2.2.2.2.2.1, w0.2.2.2.2.2.2.2.2.1, w0.2.2.2.2.2.2.2.2.2.1, w0.2.2.2.2.2.2.2.2.2.2.1, w0.2.2.2.2.2.2.2.2.2.2.2.1, w0.2.2.2.2.2.2.2.2.2.2.2.2.1, w0.2.2.2.2.2.2.2.2.2.2.2.2.2.1, w0.2.2.2.2.2.2.2.2.2.2.2.2.2.2.1, w0.2.2.2.2.2.2.2.2.2.2.2.2.2.2.2.1, w0.2.2.2.2.2.2.2.2.2.2.2.2.2.2.2.2)) H := hP
  refine lv_aload_n (pc := 29) hx hb dX7_comesAs_29 rfl (lv_at hl 1 rfl) ?_
  refine va_get (pc := 30) (D := E.1) (ci := 5) (v := .ref a1) (C := RX7) (T := TX7) (N := 17) hx hb hts i_RX7 hown hK hP 0 rfl rfl 0 (Nat.le_of_ble_eq_true rfl) fl_9 (fun _ h9 => h9) rfl dX7_comesAs_30 ?_
  refine lv_bipush (pc := 33) (v := 15) hx hb dX7_comesAs_33 (by decide) ?_
  refine lv_iconst (pc := 35) (v := 2) hx hb dX7_comesAs_35 (by decide) ?_
  refine lv_iload_n (pc := 36) hx hb dX7_comesAs_36 rfl (lv_at hl 0 rfl) ?_
  refine lv_imul (pc := 37) hx hb dX7_comesAs_37 ?_
  refine lv_iadd (pc := 38) hx hb dX7_comesAs_38 ?_
  refine lv_iconst (pc := 39) (v := 1) hx hb dX7_comesAs_39 (by decide) ?_
  refine lv_iadd (pc := 40) hx hb dX7_comesAs_40 ?_
  refine lv_iconst (pc := 41) (v := 0) hx hb dX7_comesAs_41 (by decide) ?_
  obtain ⟨h_2, hq⟩ := pv_gd_some hq
  refine va_iast (pc := 42) (D := E.1) hx hb hK hP (hD ((upd (upd w0.1 2 ((w0.1 2) + 1)) (15 + (2 * (w0.1 2))).toNatClampNeg x1), w0.2.1, w0.2.2.1, w0.2.2.2.1, w0.2.2.2.2.1, w0.2.2.2.2.2.1, w0.2.2.2.2.2.2.1, w0.2.2.2.2.2.2.2.1, w0.2.2.2.2.2.2.2.2.1, w0.2.2.2.2.2.2.2.2.2.1, w0.2.2.2.2.2.2.2.2.2.2.1, w0.2.2.2.2.2.2.2.2.2.2.2.1, w0.2.2.2.2.2.2.2.2.2.2.2.2.1, w0.2.2.2.2.2.2.2.2.2.2.2.2.2.1, w0.2.2.2.2.2.2.2.2.2.2.2.2.2.2.1, w0.2.2.2.2.2.2.2.2.2.2.2.2.2.2.2.1, w0.2.2.2.2.2.2.2.2.2.2.2.2.2.2.2.2)) hS 1 0 rfl rfl h_2 dX7_comesAs_42 (fun H locs hP _ hS => ?_)
  have hP : va_P E.1 vwCl (pv_wM E a0 a1 a2 a3 a4 a5 a6 a7 a8 a9 a10 ((upd (upd (upd w0.1 2 ((w0.1 2) + 1)) (15 + (2 * (w0.1 2))).toNatClampNeg x1) ((15 + (2 * (w0.1 2))) + 1).toNatClampNeg 0), w0.2.1, w0.2.2.1, w0.2.2.2.1, w0.2.2.2.2.1, w0.2.2.2.2.2.1, w0.2.2.2.2.2.2.1, w0.2.2.2.2.2.2.2.1, w0.2.2.2.2.2.2.2.2.1, w0.2.2.2.2.2.2.2.2.2.1, w0.2.2.2.2.2.2.2.2.2.2.1, w0.2.2.2.2.2.2.2.2.2.2.2.1, w0.2.2.2.2.2.2.2.2.2.2.2.2.1, w0.2.2.2.2.2.2.2.2.2.2.2.2.2.1, w0.2.2.2.2.2.2.2.2.2.2.2.2.2.2.1, w0.2.2.2.2.2.2.2.2.2.2.2.2.2.2.2.1, w0.2.2.2.2.2.2.2.2.2.2.2.2.2.2.2.2)) H := hP
  refine lv_iload_n (pc := 43) hx hb dX7_comesAs_43 rfl (lv_at hl 0 rfl) ?_
  exact pv_riRW (w := fun w : pv_MT => pv_wM E a0 a1 a2 a3 a4 a5 a6 a7 a8 a9 a10 w) hx hb hr hlk hAe hS hP (Option.some.inj hq) dX7_comesAs_44
def m_X7_envoy (x1 : Int32) (w : pv_MT) : Option (Int32 × pv_MT) :=
  if (m_X7_in x1.toInt64 0 5) = 0 then (Option.bind (m_X7_finds (-1000000001) w) fun u_5 => (some (u_5.1, u_5.2))) else (if (w.1 2) = 8 then (Option.bind (m_X7_finds (-1000000002) w) fun u_4 => (some (u_4.1, u_4.2))) else (Option.bind (m_X7_comesAs x1 w) fun u_3 => (some (u_3.1, u_3.2))))
abbrev r_X7_envoy : Room := { frames := 1, cells := 0, slots := 0, locals := 23 }
set_option maxHeartbeats 4000000 in
set_option maxRecDepth 100000 in
theorem c_X7_envoy (l : Launch) (E : pv_E) (a0 a1 a2 a3 a4 a5 a6 a7 a8 a9 a10 : Nat) (x1 : Int32) (w0 : pv_MT) (F : Int32 × pv_MT) (hq : m_X7_envoy x1 w0 = some F) : pv_RW l E yX7_envoy wsX7_envoy r_X7_envoy (pv_wM E a0 a1 a2 a3 a4 a5 a6 a7 a8 a9 a10 w0) [.ref a0, .int x1] (some (.int F.1)) (pv_wM E a0 a1 a2 a3 a4 a5 a6 a7 a8 a9 a10 F.2) := by
  intro sz
  refine pv_mk (by decide) rfl (Nat.le_of_ble_eq_true rfl) ?_
  intro p e s m args below meth c A hx hb hr hml hown hts hlk hAe hP hD0 hA hE hS ls hl
  have hown : s.vm.findClass RX7 = some m.cls := hown
  have hK := hE.1
  have hD : ∀ w : pv_MT, va_D A (pv_wM E a0 a1 a2 a3 a4 a5 a6 a7 a8 a9 a10 w) := fun w => pv_Dm (ws := pv_wM E a0 a1 a2 a3 a4 a5 a6 a7 a8 a9 a10 w0) (ws' := pv_wM E a0 a1 a2 a3 a4 a5 a6 a7 a8 a9 a10 w) rfl hD0
  have hP : va_P E.1 vwCl (pv_wM E a0 a1 a2 a3 a4 a5 a6 a7 a8 a9 a10 w0) s.heap := hP
  have fl_9 : (Cond.fieldLink RX7 9 "ProvinceCardsModel" "m" "[I").before args s = true := hts _ (by decide +kernel)
  have lc_101 : (Cond.constant RX7 101 (-1000000002)).before args s = true := hts _ (by decide +kernel)
  have lc_41 : (Cond.constant RX7 41 (-1000000001)).before args s = true := hts _ (by decide +kernel)
  have i_RX7 : ∀ w ∈ wsX70, w ∈ wsX7_envoy := by decide +kernel
  have hl : lv_has ls 2 [(0, .ref a0), (1, .int x1)] := hl
  suffices M0 : ∀ (H : Heap) (locs : List Loc), va_P E.1 vwCl (pv_wM E a0 a1 a2 a3 a4 a5 a6 a7 a8 a9 a10 w0) H → va_S A s.heap H locs → W p l e r_X7_envoy s m args below meth c H locs 0 0 (MQ below (pv_Rw E (pv_wM E a0 a1 a2 a3 a4 a5 a6 a7 a8 a9 a10 w0) sz (some (.int F.1)) ((fun w : pv_MT => pv_wM E a0 a1 a2 a3 a4 a5 a6 a7 a8 a9 a10 w) F.2)) args s 0 0 A) (F0 m 0 ls []) from M0 s.heap [] hP hS
  intro H locs hP hS
  refine lv_iload_n (pc := 0) hx hb dX7_envoy_0 rfl (lv_at hl 1 rfl) ?_
  refine lv_i2l (pc := 1) (v := x1.toInt64) hx hb dX7_envoy_1 rfl ?_
  refine lv_iconst (pc := 2) (v := 0) hx hb dX7_envoy_2 (by decide) ?_
  refine lv_iconst (pc := 3) (v := 5) hx hb dX7_envoy_3 (by decide) ?_
  refine pv_sRO (pc := 4) (rest := []) (st1 := [.int (m_X7_in x1.toInt64 0 5)]) (ws := pv_wM E a0 a1 a2 a3 a4 a5 a6 a7 a8 a9 a10 w0) [.long x1.toInt64, .int 0, .int 5] ⟨hx, hb, hml, hown, hts⟩ hE hA hS hP (hD w0) (c_X7_in l E x1.toInt64 0 5) (va_cwS 3 hts gX7_envoy_X7_in rfl rfl rfl (by decide +kernel) ⟨(Nat.le_of_ble_eq_true rfl), (Nat.le_of_ble_eq_true rfl)⟩) [] rfl rfl rfl hl.1 rfl rfl (Nat.le_of_ble_eq_true rfl) dX7_envoy_4 ⟨Nat.zero_le _, Nat.zero_le _⟩ (fun locs hS => ?_)
  refine lv_if_ne (pc := 7) (tgt := 17) hx hb dX7_envoy_7 (by decide) (fun c_1 => ?_) (fun c_1 => ?_)
  · have hq := pv_neg c_1 hq
    refine lv_aload_n (pc := 17) hx hb dX7_envoy_17 rfl (lv_at hl 0 rfl) ?_
    refine va_get (pc := 18) (D := E.1) (ci := 5) (v := .ref a1) (C := RX7) (T := TX7) (N := 17) hx hb hts i_RX7 hown hK hP 0 rfl rfl 0 (Nat.le_of_ble_eq_true rfl) fl_9 (fun _ h9 => h9) rfl dX7_envoy_18 ?_
    refine lv_iconst (pc := 21) (v := 2) hx hb dX7_envoy_21 (by decide) ?_
    refine va_iald (pc := 22) (D := E.1) hx hb hK hP 1 0 rfl rfl (by decide : ¬ ((2 : Int32) < 0 ∨ 31 ≤ (2 : Int32).toNatClampNeg)) dX7_envoy_22 ?_
    refine W.eq (g2 := F0 m 23 ls [.int (w0.1 2)]) rfl ?_
    refine lv_bipush (pc := 23) (v := 8) hx hb dX7_envoy_23 (by decide) ?_
    refine lv_icmp_ne (pc := 25) (tgt := 37) hx hb dX7_envoy_25 (by decide) (fun c_2 => ?_) (fun c_2 => ?_)
    · have hq := pv_neg c_2 hq
      refine lv_aload_n (pc := 37) hx hb dX7_envoy_37 rfl (lv_at hl 0 rfl) ?_
      refine lv_iload_n (pc := 38) hx hb dX7_envoy_38 rfl (lv_at hl 1 rfl) ?_
      obtain ⟨u_3, hu_3, hq⟩ := pv_bind hq
      refine pv_vRWf (pc := 39) (rest := []) (st1 := [.int u_3.1]) (ws := pv_wM E a0 a1 a2 a3 a4 a5 a6 a7 a8 a9 a10 w0) [.int x1] ⟨hx, hb, hml, hown, hts⟩ hE hA hS hP (hD w0) (c_X7_comesAs l E a0 a1 a2 a3 a4 a5 a6 a7 a8 a9 a10 x1 w0 u_3 hu_3) (cwV 1 hts gX7_envoy_X7_comesAs rfl rfl rfl (by decide +kernel) ⟨(Nat.le_of_ble_eq_true rfl), (Nat.le_of_ble_eq_true rfl)⟩) (va_recv hK hP (ci := 5) (q0 := 0) rfl rfl) rfl hl.1 rfl rfl (Nat.le_of_ble_eq_true rfl) dX7_envoy_39 ⟨Nat.zero_le _, Nat.zero_le _⟩ (fun H locs hP hS => ?_)
      have hP : va_P E.1 vwCl (pv_wM E a0 a1 a2 a3 a4 a5 a6 a7 a8 a9 a10 u_3.2) H := hP
      exact pv_riRW (w := fun w : pv_MT => pv_wM E a0 a1 a2 a3 a4 a5 a6 a7 a8 a9 a10 w) hx hb hr hlk hAe hS hP (Option.some.inj hq) dX7_envoy_42
    · have hq := pv_pos c_2 hq
      refine lv_aload_n (pc := 28) hx hb dX7_envoy_28 rfl (lv_at hl 0 rfl) ?_
      refine lv_ldc (pc := 29) hx hb hown lc_101 dX7_envoy_29 ?_
      obtain ⟨u_4, hu_4, hq⟩ := pv_bind hq
      refine pv_vRWf (pc := 31) (rest := []) (st1 := [.int u_4.1]) (ws := pv_wM E a0 a1 a2 a3 a4 a5 a6 a7 a8 a9 a10 w0) [.int (-1000000002)] ⟨hx, hb, hml, hown, hts⟩ hE hA hS hP (hD w0) (c_X7_finds l E a0 a1 a2 a3 a4 a5 a6 a7 a8 a9 a10 (-1000000002) w0 u_4 hu_4) (cwV 1 hts gX7_envoy_X7_finds rfl rfl rfl (by decide +kernel) ⟨(Nat.le_of_ble_eq_true rfl), (Nat.le_of_ble_eq_true rfl)⟩) (va_recv hK hP (ci := 5) (q0 := 0) rfl rfl) rfl hl.1 rfl rfl (Nat.le_of_ble_eq_true rfl) dX7_envoy_31 ⟨Nat.zero_le _, Nat.zero_le _⟩ (fun H locs hP hS => ?_)
      have hP : va_P E.1 vwCl (pv_wM E a0 a1 a2 a3 a4 a5 a6 a7 a8 a9 a10 u_4.2) H := hP
      refine lv_goto (pc := 34) (tgt := 42) hx hb dX7_envoy_34 (by decide) ?_
      exact pv_riRW (w := fun w : pv_MT => pv_wM E a0 a1 a2 a3 a4 a5 a6 a7 a8 a9 a10 w) hx hb hr hlk hAe hS hP (Option.some.inj hq) dX7_envoy_42
  · have hq := pv_pos c_1 hq
    refine lv_aload_n (pc := 10) hx hb dX7_envoy_10 rfl (lv_at hl 0 rfl) ?_
    refine lv_ldc (pc := 11) hx hb hown lc_41 dX7_envoy_11 ?_
    obtain ⟨u_5, hu_5, hq⟩ := pv_bind hq
    refine pv_vRWf (pc := 13) (rest := []) (st1 := [.int u_5.1]) (ws := pv_wM E a0 a1 a2 a3 a4 a5 a6 a7 a8 a9 a10 w0) [.int (-1000000001)] ⟨hx, hb, hml, hown, hts⟩ hE hA hS hP (hD w0) (c_X7_finds l E a0 a1 a2 a3 a4 a5 a6 a7 a8 a9 a10 (-1000000001) w0 u_5 hu_5) (cwV 1 hts gX7_envoy_X7_finds rfl rfl rfl (by decide +kernel) ⟨(Nat.le_of_ble_eq_true rfl), (Nat.le_of_ble_eq_true rfl)⟩) (va_recv hK hP (ci := 5) (q0 := 0) rfl rfl) rfl hl.1 rfl rfl (Nat.le_of_ble_eq_true rfl) dX7_envoy_13 ⟨Nat.zero_le _, Nat.zero_le _⟩ (fun H locs hP hS => ?_)
    have hP : va_P E.1 vwCl (pv_wM E a0 a1 a2 a3 a4 a5 a6 a7 a8 a9 a10 u_5.2) H := hP
    exact pv_riRW (w := fun w : pv_MT => pv_wM E a0 a1 a2 a3 a4 a5 a6 a7 a8 a9 a10 w) hx hb hr hlk hAe hS hP (Option.some.inj hq) dX7_envoy_16
def m_X7_of_18  (w : pv_MT) : Option (Int32 × pv_MT) :=
  Option.bind (m_X7_finds (-1000000001) w) fun u_3 => (some (u_3.1, u_3.2))
def m_X7_of_55 (x1 : Int32) (x2 : Int32) (y0 : Int32) (y1 : Int32) (w : pv_MT) : Option (Int32 × pv_MT) :=
  if 2 ≤ x2 then (some ((y0 + y1), w)) else (Option.bind (m_X7_it x1 x2 w) fun u_8 => (some (u_8, w)))
def m_X7_of_40 (x1 : Int32) (x2 : Int32) (y0 : Int32) (w : pv_MT) : Option (Int32 × pv_MT) :=
  if (w.1 4) = x1 then (m_X7_of_55 x1 x2 y0 2 w) else (m_X7_of_55 x1 x2 y0 0 w)
def m_X7_of (x1 : Int32) (x2 : Int32) (w : pv_MT) : Option (Int32 × pv_MT) :=
  Option.bind (m_X7_isEnvoy x1 w) fun u_1 => (if u_1 = 0 then (m_X7_of_18 w) else (if (m_X7_in x2.toInt64 0 2) = 0 then (m_X7_of_18 w) else (if (w.1 3) = x1 then (m_X7_of_40 x1 x2 1 w) else (m_X7_of_40 x1 x2 0 w))))
abbrev r_X7_of : Room := { frames := 2, cells := 0, slots := 0, locals := 44 }
set_option maxHeartbeats 4000000 in
set_option maxRecDepth 100000 in
theorem c_X7_of (l : Launch) (E : pv_E) (a0 a1 a2 a3 a4 a5 a6 a7 a8 a9 a10 : Nat) (x1 : Int32) (x2 : Int32) (w0 : pv_MT) (F : Int32 × pv_MT) (hq : m_X7_of x1 x2 w0 = some F) : pv_RW l E yX7_of wsX7_of r_X7_of (pv_wM E a0 a1 a2 a3 a4 a5 a6 a7 a8 a9 a10 w0) [.ref a0, .int x1, .int x2] (some (.int F.1)) (pv_wM E a0 a1 a2 a3 a4 a5 a6 a7 a8 a9 a10 F.2) := by
  intro sz
  refine pv_mk (by decide) rfl (Nat.le_of_ble_eq_true rfl) ?_
  intro p e s m args below meth c A hx hb hr hml hown hts hlk hAe hP hD0 hA hE hS ls hl
  have hown : s.vm.findClass RX7 = some m.cls := hown
  have hK := hE.1
  have hD : ∀ w : pv_MT, va_D A (pv_wM E a0 a1 a2 a3 a4 a5 a6 a7 a8 a9 a10 w) := fun w => pv_Dm (ws := pv_wM E a0 a1 a2 a3 a4 a5 a6 a7 a8 a9 a10 w0) (ws' := pv_wM E a0 a1 a2 a3 a4 a5 a6 a7 a8 a9 a10 w) rfl hD0
  have hP : va_P E.1 vwCl (pv_wM E a0 a1 a2 a3 a4 a5 a6 a7 a8 a9 a10 w0) s.heap := hP
  have lc_41 : (Cond.constant RX7 41 (-1000000001)).before args s = true := hts _ (by decide +kernel)
  have fl_9 : (Cond.fieldLink RX7 9 "ProvinceCardsModel" "m" "[I").before args s = true := hts _ (by decide +kernel)
  have i_RX7 : ∀ w ∈ wsX70, w ∈ wsX7_of := by decide +kernel
  have hl : lv_has ls 4 [(0, .ref a0), (1, .int x1), (2, .int x2)] := hl
  have B_18 : ∀  (w : pv_MT) (H : Heap) (locs : List Loc) (ls : Array Slot), va_P E.1 vwCl (pv_wM E a0 a1 a2 a3 a4 a5 a6 a7 a8 a9 a10 w) H → va_S A s.heap H locs → lv_has ls 4 [(0, .ref a0)] → m_X7_of_18 w = some F → W p l e r_X7_of s m args below meth c H locs 0 0 (MQ below (pv_Rw E (pv_wM E a0 a1 a2 a3 a4 a5 a6 a7 a8 a9 a10 w0) sz (some (.int F.1)) ((fun w : pv_MT => pv_wM E a0 a1 a2 a3 a4 a5 a6 a7 a8 a9 a10 w) F.2)) args s 0 0 A) (F0 m 18 ls []) := by
    intro w H locs ls hP hS hl hq
    refine lv_aload_n (pc := 18) hx hb dX7_of_18 rfl (lv_at hl 0 rfl) ?_
    refine lv_ldc (pc := 19) hx hb hown lc_41 dX7_of_19 ?_
    obtain ⟨u_3, hu_3, hq⟩ := pv_bind hq
    refine pv_vRWf (pc := 21) (rest := []) (st1 := [.int u_3.1]) (ws := pv_wM E a0 a1 a2 a3 a4 a5 a6 a7 a8 a9 a10 w) [.int (-1000000001)] ⟨hx, hb, hml, hown, hts⟩ hE hA hS hP (hD w) (c_X7_finds l E a0 a1 a2 a3 a4 a5 a6 a7 a8 a9 a10 (-1000000001) w u_3 hu_3) (cwV 1 hts gX7_of_X7_finds rfl rfl rfl (by decide +kernel) ⟨(Nat.le_of_ble_eq_true rfl), (Nat.le_of_ble_eq_true rfl)⟩) (va_recv hK hP (ci := 5) (q0 := 0) rfl rfl) rfl hl.1 rfl rfl (Nat.le_of_ble_eq_true rfl) dX7_of_21 ⟨Nat.zero_le _, Nat.zero_le _⟩ (fun H locs hP hS => ?_)
    have hP : va_P E.1 vwCl (pv_wM E a0 a1 a2 a3 a4 a5 a6 a7 a8 a9 a10 u_3.2) H := hP
    exact pv_riRW (w := fun w : pv_MT => pv_wM E a0 a1 a2 a3 a4 a5 a6 a7 a8 a9 a10 w) hx hb hr hlk hAe hS hP (Option.some.inj hq) dX7_of_24
  have B_55 : ∀ (x1 : Int32) (x2 : Int32) (y0 : Int32) (y1 : Int32) (w : pv_MT) (H : Heap) (locs : List Loc) (ls : Array Slot), va_P E.1 vwCl (pv_wM E a0 a1 a2 a3 a4 a5 a6 a7 a8 a9 a10 w) H → va_S A s.heap H locs → lv_has ls 4 [(0, .ref a0), (1, .int x1), (2, .int x2)] → m_X7_of_55 x1 x2 y0 y1 w = some F → W p l e r_X7_of s m args below meth c H locs 0 0 (MQ below (pv_Rw E (pv_wM E a0 a1 a2 a3 a4 a5 a6 a7 a8 a9 a10 w0) sz (some (.int F.1)) ((fun w : pv_MT => pv_wM E a0 a1 a2 a3 a4 a5 a6 a7 a8 a9 a10 w) F.2)) args s 0 0 A) (F0 m 55 ls [.int y1, .int y0]) := by
    intro x1 x2 y0 y1 w H locs ls hP hS hl hq
    refine lv_iadd (pc := 55) hx hb dX7_of_55 ?_
    refine lv_istore_n (pc := 56) (lv' := [(3, .int (y0 + y1)), (0, .ref a0), (1, .int x1), (2, .int x2)]) hx hb dX7_of_56 rfl hl (Nat.le_of_ble_eq_true rfl) rfl (fun ls hl => ?_)
    refine lv_iload_n (pc := 57) hx hb dX7_of_57 rfl (lv_at hl 3 rfl) ?_
    refine lv_iconst (pc := 58) (v := 2) hx hb dX7_of_58 (by decide) ?_
    refine lv_icmp_ge (pc := 59) (tgt := 71) hx hb dX7_of_59 (by decide) (fun c_7 => ?_) (fun c_7 => ?_)
    · have hq := pv_pos c_7 hq
      refine lv_iload_n (pc := 71) hx hb dX7_of_71 rfl (lv_at hl 0 rfl) ?_
      exact pv_riRW (w := fun w : pv_MT => pv_wM E a0 a1 a2 a3 a4 a5 a6 a7 a8 a9 a10 w) hx hb hr hlk hAe hS hP (Option.some.inj hq) dX7_of_72
    · have hq := pv_neg c_7 hq
      refine lv_aload_n (pc := 62) hx hb dX7_of_62 rfl (lv_at hl 1 rfl) ?_
      refine lv_iload_n (pc := 63) hx hb dX7_of_63 rfl (lv_at hl 2 rfl) ?_
      refine lv_iload_n (pc := 64) hx hb dX7_of_64 rfl (lv_at hl 3 rfl) ?_
      obtain ⟨u_8, hu_8, hq⟩ := pv_bind hq
      refine pv_vROf (pc := 65) (rest := []) (st1 := [.int u_8]) (ws := pv_wM E a0 a1 a2 a3 a4 a5 a6 a7 a8 a9 a10 w) [.int x1, .int x2] ⟨hx, hb, hml, hown, hts⟩ hE hA hS hP (hD w) (c_X7_it l E a0 a1 a2 a3 a4 a5 a6 a7 a8 a9 a10 x1 x2 w u_8 hu_8) (cwV 2 hts gX7_of_X7_it rfl rfl rfl (by decide +kernel) ⟨(Nat.le_of_ble_eq_true rfl), (Nat.le_of_ble_eq_true rfl)⟩) (va_recv hK hP (ci := 5) (q0 := 0) rfl rfl) rfl hl.1 rfl rfl (Nat.le_of_ble_eq_true rfl) dX7_of_65 ⟨Nat.zero_le _, Nat.zero_le _⟩ (fun locs hS => ?_)
      refine lv_goto (pc := 68) (tgt := 72) hx hb dX7_of_68 (by decide) ?_
      exact pv_riRW (w := fun w : pv_MT => pv_wM E a0 a1 a2 a3 a4 a5 a6 a7 a8 a9 a10 w) hx hb hr hlk hAe hS hP (Option.some.inj hq) dX7_of_72
  have B_40 : ∀ (x1 : Int32) (x2 : Int32) (y0 : Int32) (w : pv_MT) (H : Heap) (locs : List Loc) (ls : Array Slot), va_P E.1 vwCl (pv_wM E a0 a1 a2 a3 a4 a5 a6 a7 a8 a9 a10 w) H → va_S A s.heap H locs → lv_has ls 4 [(0, .ref a0), (1, .int x1), (2, .int x2)] → m_X7_of_40 x1 x2 y0 w = some F → W p l e r_X7_of s m args below meth c H locs 0 0 (MQ below (pv_Rw E (pv_wM E a0 a1 a2 a3 a4 a5 a6 a7 a8 a9 a10 w0) sz (some (.int F.1)) ((fun w : pv_MT => pv_wM E a0 a1 a2 a3 a4 a5 a6 a7 a8 a9 a10 w) F.2)) args s 0 0 A) (F0 m 40 ls [.int y0]) := by
    intro x1 x2 y0 w H locs ls hP hS hl hq
    refine lv_aload_n (pc := 40) hx hb dX7_of_40 rfl (lv_at hl 0 rfl) ?_
    refine va_get (pc := 41) (D := E.1) (ci := 5) (v := .ref a1) (C := RX7) (T := TX7) (N := 17) hx hb hts i_RX7 hown hK hP 0 rfl rfl 0 (Nat.le_of_ble_eq_true rfl) fl_9 (fun _ h9 => h9) rfl dX7_of_41 ?_
    refine lv_iconst (pc := 44) (v := 4) hx hb dX7_of_44 (by decide) ?_
    refine va_iald (pc := 45) (D := E.1) hx hb hK hP 1 0 rfl rfl (by decide : ¬ ((4 : Int32) < 0 ∨ 31 ≤ (4 : Int32).toNatClampNeg)) dX7_of_45 ?_
    refine W.eq (g2 := F0 m 46 ls [.int (w.1 4), .int y0]) rfl ?_
    refine lv_iload_n (pc := 46) hx hb dX7_of_46 rfl (lv_at hl 1 rfl) ?_
    refine lv_icmp_ne (pc := 47) (tgt := 54) hx hb dX7_of_47 (by decide) (fun c_6 => ?_) (fun c_6 => ?_)
    · have hq := pv_neg c_6 hq
      refine lv_iconst (pc := 54) (v := 0) hx hb dX7_of_54 (by decide) ?_
      exact B_55 x1 x2 y0 0 w H locs ls hP hS (lv_sub hl [0, 1, 2] rfl) hq
    · have hq := pv_pos c_6 hq
      refine lv_iconst (pc := 50) (v := 2) hx hb dX7_of_50 (by decide) ?_
      refine lv_goto (pc := 51) (tgt := 55) hx hb dX7_of_51 (by decide) ?_
      exact B_55 x1 x2 y0 2 w H locs ls hP hS (lv_sub hl [0, 1, 2] rfl) hq
  suffices M0 : ∀ (H : Heap) (locs : List Loc), va_P E.1 vwCl (pv_wM E a0 a1 a2 a3 a4 a5 a6 a7 a8 a9 a10 w0) H → va_S A s.heap H locs → W p l e r_X7_of s m args below meth c H locs 0 0 (MQ below (pv_Rw E (pv_wM E a0 a1 a2 a3 a4 a5 a6 a7 a8 a9 a10 w0) sz (some (.int F.1)) ((fun w : pv_MT => pv_wM E a0 a1 a2 a3 a4 a5 a6 a7 a8 a9 a10 w) F.2)) args s 0 0 A) (F0 m 0 ls []) from M0 s.heap [] hP hS
  intro H locs hP hS
  refine lv_aload_n (pc := 0) hx hb dX7_of_0 rfl (lv_at hl 0 rfl) ?_
  refine lv_iload_n (pc := 1) hx hb dX7_of_1 rfl (lv_at hl 1 rfl) ?_
  obtain ⟨u_1, hu_1, hq⟩ := pv_bind hq
  refine pv_vROf (pc := 2) (rest := []) (st1 := [.int u_1]) (ws := pv_wM E a0 a1 a2 a3 a4 a5 a6 a7 a8 a9 a10 w0) [.int x1] ⟨hx, hb, hml, hown, hts⟩ hE hA hS hP (hD w0) (c_X7_isEnvoy l E a0 a1 a2 a3 a4 a5 a6 a7 a8 a9 a10 x1 w0 u_1 hu_1) (cwV 1 hts gX7_of_X7_isEnvoy rfl rfl rfl (by decide +kernel) ⟨(Nat.le_of_ble_eq_true rfl), (Nat.le_of_ble_eq_true rfl)⟩) (va_recv hK hP (ci := 5) (q0 := 0) rfl rfl) rfl hl.1 rfl rfl (Nat.le_of_ble_eq_true rfl) dX7_of_2 ⟨Nat.zero_le _, Nat.zero_le _⟩ (fun locs hS => ?_)
  refine lv_if_eq (pc := 5) (tgt := 18) hx hb dX7_of_5 (by decide) (fun c_2 => ?_) (fun c_2 => ?_)
  · have hq := pv_pos c_2 hq
    exact B_18 w0 H locs ls hP hS (lv_sub hl [0] rfl) hq
  · have hq := pv_neg c_2 hq
    refine lv_iload_n (pc := 8) hx hb dX7_of_8 rfl (lv_at hl 2 rfl) ?_
    refine lv_i2l (pc := 9) (v := x2.toInt64) hx hb dX7_of_9 rfl ?_
    refine lv_iconst (pc := 10) (v := 0) hx hb dX7_of_10 (by decide) ?_
    refine lv_iconst (pc := 11) (v := 2) hx hb dX7_of_11 (by decide) ?_
    refine pv_sRO (pc := 12) (rest := []) (st1 := [.int (m_X7_in x2.toInt64 0 2)]) (ws := pv_wM E a0 a1 a2 a3 a4 a5 a6 a7 a8 a9 a10 w0) [.long x2.toInt64, .int 0, .int 2] ⟨hx, hb, hml, hown, hts⟩ hE hA hS hP (hD w0) (c_X7_in l E x2.toInt64 0 2) (va_cwS 3 hts gX7_of_X7_in rfl rfl rfl (by decide +kernel) ⟨(Nat.le_of_ble_eq_true rfl), (Nat.le_of_ble_eq_true rfl)⟩) [] rfl rfl rfl hl.1 rfl rfl (Nat.le_of_ble_eq_true rfl) dX7_of_12 ⟨Nat.zero_le _, Nat.zero_le _⟩ (fun locs hS => ?_)
    refine lv_if_ne (pc := 15) (tgt := 25) hx hb dX7_of_15 (by decide) (fun c_4 => ?_) (fun c_4 => ?_)
    · have hq := pv_neg c_4 hq
      refine lv_aload_n (pc := 25) hx hb dX7_of_25 rfl (lv_at hl 0 rfl) ?_
      refine va_get (pc := 26) (D := E.1) (ci := 5) (v := .ref a1) (C := RX7) (T := TX7) (N := 17) hx hb hts i_RX7 hown hK hP 0 rfl rfl 0 (Nat.le_of_ble_eq_true rfl) fl_9 (fun _ h9 => h9) rfl dX7_of_26 ?_
      refine lv_iconst (pc := 29) (v := 3) hx hb dX7_of_29 (by decide) ?_
      refine va_iald (pc := 30) (D := E.1) hx hb hK hP 1 0 rfl rfl (by decide : ¬ ((3 : Int32) < 0 ∨ 31 ≤ (3 : Int32).toNatClampNeg)) dX7_of_30 ?_
      refine W.eq (g2 := F0 m 31 ls [.int (w0.1 3)]) rfl ?_
      refine lv_iload_n (pc := 31) hx hb dX7_of_31 rfl (lv_at hl 1 rfl) ?_
      refine lv_icmp_ne (pc := 32) (tgt := 39) hx hb dX7_of_32 (by decide) (fun c_5 => ?_) (fun c_5 => ?_)
      · have hq := pv_neg c_5 hq
        refine lv_iconst (pc := 39) (v := 0) hx hb dX7_of_39 (by decide) ?_
        exact B_40 x1 x2 0 w0 H locs ls hP hS (lv_sub hl [0, 1, 2] rfl) hq
      · have hq := pv_pos c_5 hq
        refine lv_iconst (pc := 35) (v := 1) hx hb dX7_of_35 (by decide) ?_
        refine lv_goto (pc := 36) (tgt := 40) hx hb dX7_of_36 (by decide) ?_
        exact B_40 x1 x2 1 w0 H locs ls hP hS (lv_sub hl [0, 1, 2] rfl) hq
    · have hq := pv_pos c_4 hq
      exact B_18 w0 H locs ls hP hS (lv_sub hl [0] rfl) hq
def m_X7_turn_32  (w : pv_MT) : Option (Int32 × pv_MT) :=
  Option.bind (m_X7_finds (-1000000001) w) fun u_3 => (some (u_3.1, u_3.2))
def m_X7_turn (x1 : Int32) (x2 : Int32) (w : pv_MT) : Option (Int32 × pv_MT) :=
  Option.bind (m_X7_isEnvoy x1 w) fun u_1 => (if u_1 = 0 then (m_X7_turn_32 w) else (if (m_X7_in x2.toInt64 0 5) = 0 then (m_X7_turn_32 w) else (Option.bind (m_X7_becomes (15 + (2 * x1)) x2 w) fun u_5 => (some (u_5.1, u_5.2)))))
abbrev r_X7_turn : Room := { frames := 2, cells := 0, slots := 0, locals := 44 }
set_option maxHeartbeats 4000000 in
set_option maxRecDepth 100000 in
theorem c_X7_turn (l : Launch) (E : pv_E) (a0 a1 a2 a3 a4 a5 a6 a7 a8 a9 a10 : Nat) (x1 : Int32) (x2 : Int32) (w0 : pv_MT) (F : Int32 × pv_MT) (hq : m_X7_turn x1 x2 w0 = some F) : pv_RW l E yX7_turn wsX7_turn r_X7_turn (pv_wM E a0 a1 a2 a3 a4 a5 a6 a7 a8 a9 a10 w0) [.ref a0, .int x1, .int x2] (some (.int F.1)) (pv_wM E a0 a1 a2 a3 a4 a5 a6 a7 a8 a9 a10 F.2) := by
  intro sz
  refine pv_mk (by decide) rfl (Nat.le_of_ble_eq_true rfl) ?_
  intro p e s m args below meth c A hx hb hr hml hown hts hlk hAe hP hD0 hA hE hS ls hl
  have hown : s.vm.findClass RX7 = some m.cls := hown
  have hK := hE.1
  have hD : ∀ w : pv_MT, va_D A (pv_wM E a0 a1 a2 a3 a4 a5 a6 a7 a8 a9 a10 w) := fun w => pv_Dm (ws := pv_wM E a0 a1 a2 a3 a4 a5 a6 a7 a8 a9 a10 w0) (ws' := pv_wM E a0 a1 a2 a3 a4 a5 a6 a7 a8 a9 a10 w) rfl hD0
  have hP : va_P E.1 vwCl (pv_wM E a0 a1 a2 a3 a4 a5 a6 a7 a8 a9 a10 w0) s.heap := hP
  have lc_41 : (Cond.constant RX7 41 (-1000000001)).before args s = true := hts _ (by decide +kernel)
  have hl : lv_has ls 3 [(0, .ref a0), (1, .int x1), (2, .int x2)] := hl
  have B_32 : ∀  (w : pv_MT) (H : Heap) (locs : List Loc) (ls : Array Slot), va_P E.1 vwCl (pv_wM E a0 a1 a2 a3 a4 a5 a6 a7 a8 a9 a10 w) H → va_S A s.heap H locs → lv_has ls 3 [(0, .ref a0)] → m_X7_turn_32 w = some F → W p l e r_X7_turn s m args below meth c H locs 0 0 (MQ below (pv_Rw E (pv_wM E a0 a1 a2 a3 a4 a5 a6 a7 a8 a9 a10 w0) sz (some (.int F.1)) ((fun w : pv_MT => pv_wM E a0 a1 a2 a3 a4 a5 a6 a7 a8 a9 a10 w) F.2)) args s 0 0 A) (F0 m 32 ls []) := by
    intro w H locs ls hP hS hl hq
    refine lv_aload_n (pc := 32) hx hb dX7_turn_32 rfl (lv_at hl 0 rfl) ?_
    refine lv_ldc (pc := 33) hx hb hown lc_41 dX7_turn_33 ?_
    obtain ⟨u_3, hu_3, hq⟩ := pv_bind hq
    refine pv_vRWf (pc := 35) (rest := []) (st1 := [.int u_3.1]) (ws := pv_wM E a0 a1 a2 a3 a4 a5 a6 a7 a8 a9 a10 w) [.int (-1000000001)] ⟨hx, hb, hml, hown, hts⟩ hE hA hS hP (hD w) (c_X7_finds l E a0 a1 a2 a3 a4 a5 a6 a7 a8 a9 a10 (-1000000001) w u_3 hu_3) (cwV 1 hts gX7_turn_X7_finds rfl rfl rfl (by decide +kernel) ⟨(Nat.le_of_ble_eq_true rfl), (Nat.le_of_ble_eq_true rfl)⟩) (va_recv hK hP (ci := 5) (q0 := 0) rfl rfl) rfl hl.1 rfl rfl (Nat.le_of_ble_eq_true rfl) dX7_turn_35 ⟨Nat.zero_le _, Nat.zero_le _⟩ (fun H locs hP hS => ?_)
    have hP : va_P E.1 vwCl (pv_wM E a0 a1 a2 a3 a4 a5 a6 a7 a8 a9 a10 u_3.2) H := hP
    exact pv_riRW (w := fun w : pv_MT => pv_wM E a0 a1 a2 a3 a4 a5 a6 a7 a8 a9 a10 w) hx hb hr hlk hAe hS hP (Option.some.inj hq) dX7_turn_38
  suffices M0 : ∀ (H : Heap) (locs : List Loc), va_P E.1 vwCl (pv_wM E a0 a1 a2 a3 a4 a5 a6 a7 a8 a9 a10 w0) H → va_S A s.heap H locs → W p l e r_X7_turn s m args below meth c H locs 0 0 (MQ below (pv_Rw E (pv_wM E a0 a1 a2 a3 a4 a5 a6 a7 a8 a9 a10 w0) sz (some (.int F.1)) ((fun w : pv_MT => pv_wM E a0 a1 a2 a3 a4 a5 a6 a7 a8 a9 a10 w) F.2)) args s 0 0 A) (F0 m 0 ls []) from M0 s.heap [] hP hS
  intro H locs hP hS
  refine lv_aload_n (pc := 0) hx hb dX7_turn_0 rfl (lv_at hl 0 rfl) ?_
  refine lv_iload_n (pc := 1) hx hb dX7_turn_1 rfl (lv_at hl 1 rfl) ?_
  obtain ⟨u_1, hu_1, hq⟩ := pv_bind hq
  refine pv_vROf (pc := 2) (rest := []) (st1 := [.int u_1]) (ws := pv_wM E a0 a1 a2 a3 a4 a5 a6 a7 a8 a9 a10 w0) [.int x1] ⟨hx, hb, hml, hown, hts⟩ hE hA hS hP (hD w0) (c_X7_isEnvoy l E a0 a1 a2 a3 a4 a5 a6 a7 a8 a9 a10 x1 w0 u_1 hu_1) (cwV 1 hts gX7_turn_X7_isEnvoy rfl rfl rfl (by decide +kernel) ⟨(Nat.le_of_ble_eq_true rfl), (Nat.le_of_ble_eq_true rfl)⟩) (va_recv hK hP (ci := 5) (q0 := 0) rfl rfl) rfl hl.1 rfl rfl (Nat.le_of_ble_eq_true rfl) dX7_turn_2 ⟨Nat.zero_le _, Nat.zero_le _⟩ (fun locs hS => ?_)
  refine lv_if_eq (pc := 5) (tgt := 32) hx hb dX7_turn_5 (by decide) (fun c_2 => ?_) (fun c_2 => ?_)
  · have hq := pv_pos c_2 hq
    exact B_32 w0 H locs ls hP hS (lv_sub hl [0] rfl) hq
  · have hq := pv_neg c_2 hq
    refine lv_iload_n (pc := 8) hx hb dX7_turn_8 rfl (lv_at hl 2 rfl) ?_
    refine lv_i2l (pc := 9) (v := x2.toInt64) hx hb dX7_turn_9 rfl ?_
    refine lv_iconst (pc := 10) (v := 0) hx hb dX7_turn_10 (by decide) ?_
    refine lv_iconst (pc := 11) (v := 5) hx hb dX7_turn_11 (by decide) ?_
    refine pv_sRO (pc := 12) (rest := []) (st1 := [.int (m_X7_in x2.toInt64 0 5)]) (ws := pv_wM E a0 a1 a2 a3 a4 a5 a6 a7 a8 a9 a10 w0) [.long x2.toInt64, .int 0, .int 5] ⟨hx, hb, hml, hown, hts⟩ hE hA hS hP (hD w0) (c_X7_in l E x2.toInt64 0 5) (va_cwS 3 hts gX7_turn_X7_in rfl rfl rfl (by decide +kernel) ⟨(Nat.le_of_ble_eq_true rfl), (Nat.le_of_ble_eq_true rfl)⟩) [] rfl rfl rfl hl.1 rfl rfl (Nat.le_of_ble_eq_true rfl) dX7_turn_12 ⟨Nat.zero_le _, Nat.zero_le _⟩ (fun locs hS => ?_)
    refine lv_if_eq (pc := 15) (tgt := 32) hx hb dX7_turn_15 (by decide) (fun c_4 => ?_) (fun c_4 => ?_)
    · have hq := pv_pos c_4 hq
      exact B_32 w0 H locs ls hP hS (lv_sub hl [0] rfl) hq
    · have hq := pv_neg c_4 hq
      refine lv_aload_n (pc := 18) hx hb dX7_turn_18 rfl (lv_at hl 0 rfl) ?_
      refine lv_bipush (pc := 19) (v := 15) hx hb dX7_turn_19 (by decide) ?_
      refine lv_iconst (pc := 21) (v := 2) hx hb dX7_turn_21 (by decide) ?_
      refine lv_iload_n (pc := 22) hx hb dX7_turn_22 rfl (lv_at hl 1 rfl) ?_
      refine lv_imul (pc := 23) hx hb dX7_turn_23 ?_
      refine lv_iadd (pc := 24) hx hb dX7_turn_24 ?_
      refine lv_iload_n (pc := 25) hx hb dX7_turn_25 rfl (lv_at hl 2 rfl) ?_
      obtain ⟨u_5, hu_5, hq⟩ := pv_bind hq
      refine pv_vRWf (pc := 26) (rest := []) (st1 := [.int u_5.1]) (ws := pv_wM E a0 a1 a2 a3 a4 a5 a6 a7 a8 a9 a10 w0) [.int (15 + (2 * x1)), .int x2] ⟨hx, hb, hml, hown, hts⟩ hE hA hS hP (hD w0) (c_X7_becomes l E a0 a1 a2 a3 a4 a5 a6 a7 a8 a9 a10 (15 + (2 * x1)) x2 w0 u_5 hu_5) (cwV 2 hts gX7_turn_X7_becomes rfl rfl rfl (by decide +kernel) ⟨(Nat.le_of_ble_eq_true rfl), (Nat.le_of_ble_eq_true rfl)⟩) (va_recv hK hP (ci := 5) (q0 := 0) rfl rfl) rfl hl.1 rfl rfl (Nat.le_of_ble_eq_true rfl) dX7_turn_26 ⟨Nat.zero_le _, Nat.zero_le _⟩ (fun H locs hP hS => ?_)
      have hP : va_P E.1 vwCl (pv_wM E a0 a1 a2 a3 a4 a5 a6 a7 a8 a9 a10 u_5.2) H := hP
      refine lv_goto (pc := 29) (tgt := 38) hx hb dX7_turn_29 (by decide) ?_
      exact pv_riRW (w := fun w : pv_MT => pv_wM E a0 a1 a2 a3 a4 a5 a6 a7 a8 a9 a10 w) hx hb hr hlk hAe hS hP (Option.some.inj hq) dX7_turn_38
def m_X7_as_18  (w : pv_MT) : Option (Int32 × pv_MT) :=
  Option.bind (m_X7_finds (-1000000001) w) fun u_3 => (some (u_3.1, u_3.2))
def m_X7_as_66 (x1 : Int32) (y0 : Int32) (w : pv_MT) : Option (Int32 × pv_MT) :=
  if y0 = 0 then (Option.bind (m_X7_finds (-1000000003) w) fun u_8 => (some (u_8.1, u_8.2))) else (Option.bind (m_X7_it x1 1 w) fun u_9 => (some (u_9, w)))
def m_X7_as_61 (x1 : Int32) (w : pv_MT) : Option (Int32 × pv_MT) :=
  m_X7_as_66 x1 1 w
def m_X7_as_65 (x1 : Int32) (w : pv_MT) : Option (Int32 × pv_MT) :=
  m_X7_as_66 x1 0 w
def m_X7_as_51 (x1 : Int32) (x2 : Int32) (x3 : Int32) (w : pv_MT) : Option (Int32 × pv_MT) :=
  if x2 = 2 then (if x3 = 5 then (m_X7_as_61 x1 w) else (m_X7_as_65 x1 w)) else (m_X7_as_65 x1 w)
def m_X7_as (x1 : Int32) (x2 : Int32) (w : pv_MT) : Option (Int32 × pv_MT) :=
  Option.bind (m_X7_isEnvoy x1 w) fun u_1 => (if u_1 = 0 then (m_X7_as_18 w) else (if (m_X7_in x2.toInt64 0 5) = 0 then (m_X7_as_18 w) else (Option.bind (m_X7_it x1 0 w) fun u_5 => (if x2 = 0 then (m_X7_as_61 x1 w) else (if x2 = u_5 then (m_X7_as_61 x1 w) else (if x2 = 1 then (if u_5 = 4 then (m_X7_as_61 x1 w) else (m_X7_as_51 x1 x2 u_5 w)) else (m_X7_as_51 x1 x2 u_5 w)))))))
abbrev r_X7_as : Room := { frames := 2, cells := 0, slots := 0, locals := 44 }
set_option maxHeartbeats 4000000 in
set_option maxRecDepth 100000 in
theorem c_X7_as (l : Launch) (E : pv_E) (a0 a1 a2 a3 a4 a5 a6 a7 a8 a9 a10 : Nat) (x1 : Int32) (x2 : Int32) (w0 : pv_MT) (F : Int32 × pv_MT) (hq : m_X7_as x1 x2 w0 = some F) : pv_RW l E yX7_as wsX7_as r_X7_as (pv_wM E a0 a1 a2 a3 a4 a5 a6 a7 a8 a9 a10 w0) [.ref a0, .int x1, .int x2] (some (.int F.1)) (pv_wM E a0 a1 a2 a3 a4 a5 a6 a7 a8 a9 a10 F.2) := by
  intro sz
  refine pv_mk (by decide) rfl (Nat.le_of_ble_eq_true rfl) ?_
  intro p e s m args below meth c A hx hb hr hml hown hts hlk hAe hP hD0 hA hE hS ls hl
  have hown : s.vm.findClass RX7 = some m.cls := hown
  have hK := hE.1
  have hD : ∀ w : pv_MT, va_D A (pv_wM E a0 a1 a2 a3 a4 a5 a6 a7 a8 a9 a10 w) := fun w => pv_Dm (ws := pv_wM E a0 a1 a2 a3 a4 a5 a6 a7 a8 a9 a10 w0) (ws' := pv_wM E a0 a1 a2 a3 a4 a5 a6 a7 a8 a9 a10 w) rfl hD0
  have hP : va_P E.1 vwCl (pv_wM E a0 a1 a2 a3 a4 a5 a6 a7 a8 a9 a10 w0) s.heap := hP
  have lc_41 : (Cond.constant RX7 41 (-1000000001)).before args s = true := hts _ (by decide +kernel)
  have lc_108 : (Cond.constant RX7 108 (-1000000003)).before args s = true := hts _ (by decide +kernel)
  have hl : lv_has ls 5 [(0, .ref a0), (1, .int x1), (2, .int x2)] := hl
  have B_18 : ∀  (w : pv_MT) (H : Heap) (locs : List Loc) (ls : Array Slot), va_P E.1 vwCl (pv_wM E a0 a1 a2 a3 a4 a5 a6 a7 a8 a9 a10 w) H → va_S A s.heap H locs → lv_has ls 5 [(0, .ref a0)] → m_X7_as_18 w = some F → W p l e r_X7_as s m args below meth c H locs 0 0 (MQ below (pv_Rw E (pv_wM E a0 a1 a2 a3 a4 a5 a6 a7 a8 a9 a10 w0) sz (some (.int F.1)) ((fun w : pv_MT => pv_wM E a0 a1 a2 a3 a4 a5 a6 a7 a8 a9 a10 w) F.2)) args s 0 0 A) (F0 m 18 ls []) := by
    intro w H locs ls hP hS hl hq
    refine lv_aload_n (pc := 18) hx hb dX7_as_18 rfl (lv_at hl 0 rfl) ?_
    refine lv_ldc (pc := 19) hx hb hown lc_41 dX7_as_19 ?_
    obtain ⟨u_3, hu_3, hq⟩ := pv_bind hq
    refine pv_vRWf (pc := 21) (rest := []) (st1 := [.int u_3.1]) (ws := pv_wM E a0 a1 a2 a3 a4 a5 a6 a7 a8 a9 a10 w) [.int (-1000000001)] ⟨hx, hb, hml, hown, hts⟩ hE hA hS hP (hD w) (c_X7_finds l E a0 a1 a2 a3 a4 a5 a6 a7 a8 a9 a10 (-1000000001) w u_3 hu_3) (cwV 1 hts gX7_as_X7_finds rfl rfl rfl (by decide +kernel) ⟨(Nat.le_of_ble_eq_true rfl), (Nat.le_of_ble_eq_true rfl)⟩) (va_recv hK hP (ci := 5) (q0 := 0) rfl rfl) rfl hl.1 rfl rfl (Nat.le_of_ble_eq_true rfl) dX7_as_21 ⟨Nat.zero_le _, Nat.zero_le _⟩ (fun H locs hP hS => ?_)
    have hP : va_P E.1 vwCl (pv_wM E a0 a1 a2 a3 a4 a5 a6 a7 a8 a9 a10 u_3.2) H := hP
    exact pv_riRW (w := fun w : pv_MT => pv_wM E a0 a1 a2 a3 a4 a5 a6 a7 a8 a9 a10 w) hx hb hr hlk hAe hS hP (Option.some.inj hq) dX7_as_24
  have B_66 : ∀ (x1 : Int32) (y0 : Int32) (w : pv_MT) (H : Heap) (locs : List Loc) (ls : Array Slot), va_P E.1 vwCl (pv_wM E a0 a1 a2 a3 a4 a5 a6 a7 a8 a9 a10 w) H → va_S A s.heap H locs → lv_has ls 5 [(0, .ref a0), (1, .int x1)] → m_X7_as_66 x1 y0 w = some F → W p l e r_X7_as s m args below meth c H locs 0 0 (MQ below (pv_Rw E (pv_wM E a0 a1 a2 a3 a4 a5 a6 a7 a8 a9 a10 w0) sz (some (.int F.1)) ((fun w : pv_MT => pv_wM E a0 a1 a2 a3 a4 a5 a6 a7 a8 a9 a10 w) F.2)) args s 0 0 A) (F0 m 66 ls [.int y0]) := by
    intro x1 y0 w H locs ls hP hS hl hq
    refine lv_istore (pc := 66) (lv' := [(4, .int y0), (0, .ref a0), (1, .int x1)]) hx hb dX7_as_66 hl (Nat.le_of_ble_eq_true rfl) rfl (fun ls hl => ?_)
    refine lv_iload (pc := 68) hx hb dX7_as_68 (lv_at hl 0 rfl) ?_
    refine lv_if_eq (pc := 70) (tgt := 82) hx hb dX7_as_70 (by decide) (fun c_7 => ?_) (fun c_7 => ?_)
    · have hq := pv_pos c_7 hq
      refine lv_aload_n (pc := 82) hx hb dX7_as_82 rfl (lv_at hl 1 rfl) ?_
      refine lv_ldc (pc := 83) hx hb hown lc_108 dX7_as_83 ?_
      obtain ⟨u_8, hu_8, hq⟩ := pv_bind hq
      refine pv_vRWf (pc := 85) (rest := []) (st1 := [.int u_8.1]) (ws := pv_wM E a0 a1 a2 a3 a4 a5 a6 a7 a8 a9 a10 w) [.int (-1000000003)] ⟨hx, hb, hml, hown, hts⟩ hE hA hS hP (hD w) (c_X7_finds l E a0 a1 a2 a3 a4 a5 a6 a7 a8 a9 a10 (-1000000003) w u_8 hu_8) (cwV 1 hts gX7_as_X7_finds rfl rfl rfl (by decide +kernel) ⟨(Nat.le_of_ble_eq_true rfl), (Nat.le_of_ble_eq_true rfl)⟩) (va_recv hK hP (ci := 5) (q0 := 0) rfl rfl) rfl hl.1 rfl rfl (Nat.le_of_ble_eq_true rfl) dX7_as_85 ⟨Nat.zero_le _, Nat.zero_le _⟩ (fun H locs hP hS => ?_)
      have hP : va_P E.1 vwCl (pv_wM E a0 a1 a2 a3 a4 a5 a6 a7 a8 a9 a10 u_8.2) H := hP
      exact pv_riRW (w := fun w : pv_MT => pv_wM E a0 a1 a2 a3 a4 a5 a6 a7 a8 a9 a10 w) hx hb hr hlk hAe hS hP (Option.some.inj hq) dX7_as_88
    · have hq := pv_neg c_7 hq
      refine lv_aload_n (pc := 73) hx hb dX7_as_73 rfl (lv_at hl 1 rfl) ?_
      refine lv_iload_n (pc := 74) hx hb dX7_as_74 rfl (lv_at hl 2 rfl) ?_
      refine lv_iconst (pc := 75) (v := 1) hx hb dX7_as_75 (by decide) ?_
      obtain ⟨u_9, hu_9, hq⟩ := pv_bind hq
      refine pv_vROf (pc := 76) (rest := []) (st1 := [.int u_9]) (ws := pv_wM E a0 a1 a2 a3 a4 a5 a6 a7 a8 a9 a10 w) [.int x1, .int 1] ⟨hx, hb, hml, hown, hts⟩ hE hA hS hP (hD w) (c_X7_it l E a0 a1 a2 a3 a4 a5 a6 a7 a8 a9 a10 x1 1 w u_9 hu_9) (cwV 2 hts gX7_as_X7_it rfl rfl rfl (by decide +kernel) ⟨(Nat.le_of_ble_eq_true rfl), (Nat.le_of_ble_eq_true rfl)⟩) (va_recv hK hP (ci := 5) (q0 := 0) rfl rfl) rfl hl.1 rfl rfl (Nat.le_of_ble_eq_true rfl) dX7_as_76 ⟨Nat.zero_le _, Nat.zero_le _⟩ (fun locs hS => ?_)
      refine lv_goto (pc := 79) (tgt := 88) hx hb dX7_as_79 (by decide) ?_
      exact pv_riRW (w := fun w : pv_MT => pv_wM E a0 a1 a2 a3 a4 a5 a6 a7 a8 a9 a10 w) hx hb hr hlk hAe hS hP (Option.some.inj hq) dX7_as_88
  have B_61 : ∀ (x1 : Int32) (w : pv_MT) (H : Heap) (locs : List Loc) (ls : Array Slot), va_P E.1 vwCl (pv_wM E a0 a1 a2 a3 a4 a5 a6 a7 a8 a9 a10 w) H → va_S A s.heap H locs → lv_has ls 5 [(0, .ref a0), (1, .int x1)] → m_X7_as_61 x1 w = some F → W p l e r_X7_as s m args below meth c H locs 0 0 (MQ below (pv_Rw E (pv_wM E a0 a1 a2 a3 a4 a5 a6 a7 a8 a9 a10 w0) sz (some (.int F.1)) ((fun w : pv_MT => pv_wM E a0 a1 a2 a3 a4 a5 a6 a7 a8 a9 a10 w) F.2)) args s 0 0 A) (F0 m 61 ls []) := by
    intro x1 w H locs ls hP hS hl hq
    refine lv_iconst (pc := 61) (v := 1) hx hb dX7_as_61 (by decide) ?_
    refine lv_goto (pc := 62) (tgt := 66) hx hb dX7_as_62 (by decide) ?_
    exact B_66 x1 1 w H locs ls hP hS (lv_sub hl [0, 1] rfl) hq
  have B_65 : ∀ (x1 : Int32) (w : pv_MT) (H : Heap) (locs : List Loc) (ls : Array Slot), va_P E.1 vwCl (pv_wM E a0 a1 a2 a3 a4 a5 a6 a7 a8 a9 a10 w) H → va_S A s.heap H locs → lv_has ls 5 [(0, .ref a0), (1, .int x1)] → m_X7_as_65 x1 w = some F → W p l e r_X7_as s m args below meth c H locs 0 0 (MQ below (pv_Rw E (pv_wM E a0 a1 a2 a3 a4 a5 a6 a7 a8 a9 a10 w0) sz (some (.int F.1)) ((fun w : pv_MT => pv_wM E a0 a1 a2 a3 a4 a5 a6 a7 a8 a9 a10 w) F.2)) args s 0 0 A) (F0 m 65 ls []) := by
    intro x1 w H locs ls hP hS hl hq
    refine lv_iconst (pc := 65) (v := 0) hx hb dX7_as_65 (by decide) ?_
    exact B_66 x1 0 w H locs ls hP hS (lv_sub hl [0, 1] rfl) hq
  have B_51 : ∀ (x1 : Int32) (x2 : Int32) (x3 : Int32) (w : pv_MT) (H : Heap) (locs : List Loc) (ls : Array Slot), va_P E.1 vwCl (pv_wM E a0 a1 a2 a3 a4 a5 a6 a7 a8 a9 a10 w) H → va_S A s.heap H locs → lv_has ls 5 [(0, .ref a0), (1, .int x1), (2, .int x2), (3, .int x3)] → m_X7_as_51 x1 x2 x3 w = some F → W p l e r_X7_as s m args below meth c H locs 0 0 (MQ below (pv_Rw E (pv_wM E a0 a1 a2 a3 a4 a5 a6 a7 a8 a9 a10 w0) sz (some (.int F.1)) ((fun w : pv_MT => pv_wM E a0 a1 a2 a3 a4 a5 a6 a7 a8 a9 a10 w) F.2)) args s 0 0 A) (F0 m 51 ls []) := by
    intro x1 x2 x3 w H locs ls hP hS hl hq
    refine lv_iload_n (pc := 51) hx hb dX7_as_51 rfl (lv_at hl 2 rfl) ?_
    refine lv_iconst (pc := 52) (v := 2) hx hb dX7_as_52 (by decide) ?_
    refine lv_icmp_ne (pc := 53) (tgt := 65) hx hb dX7_as_53 (by decide) (fun c_12 => ?_) (fun c_12 => ?_)
    · have hq := pv_neg c_12 hq
      exact B_65 x1 w H locs ls hP hS (lv_sub hl [0, 1] rfl) hq
    · have hq := pv_pos c_12 hq
      refine lv_iload_n (pc := 56) hx hb dX7_as_56 rfl (lv_at hl 3 rfl) ?_
      refine lv_iconst (pc := 57) (v := 5) hx hb dX7_as_57 (by decide) ?_
      refine lv_icmp_ne (pc := 58) (tgt := 65) hx hb dX7_as_58 (by decide) (fun c_13 => ?_) (fun c_13 => ?_)
      · have hq := pv_neg c_13 hq
        exact B_65 x1 w H locs ls hP hS (lv_sub hl [0, 1] rfl) hq
      · have hq := pv_pos c_13 hq
        exact B_61 x1 w H locs ls hP hS (lv_sub hl [0, 1] rfl) hq
  suffices M0 : ∀ (H : Heap) (locs : List Loc), va_P E.1 vwCl (pv_wM E a0 a1 a2 a3 a4 a5 a6 a7 a8 a9 a10 w0) H → va_S A s.heap H locs → W p l e r_X7_as s m args below meth c H locs 0 0 (MQ below (pv_Rw E (pv_wM E a0 a1 a2 a3 a4 a5 a6 a7 a8 a9 a10 w0) sz (some (.int F.1)) ((fun w : pv_MT => pv_wM E a0 a1 a2 a3 a4 a5 a6 a7 a8 a9 a10 w) F.2)) args s 0 0 A) (F0 m 0 ls []) from M0 s.heap [] hP hS
  intro H locs hP hS
  refine lv_aload_n (pc := 0) hx hb dX7_as_0 rfl (lv_at hl 0 rfl) ?_
  refine lv_iload_n (pc := 1) hx hb dX7_as_1 rfl (lv_at hl 1 rfl) ?_
  obtain ⟨u_1, hu_1, hq⟩ := pv_bind hq
  refine pv_vROf (pc := 2) (rest := []) (st1 := [.int u_1]) (ws := pv_wM E a0 a1 a2 a3 a4 a5 a6 a7 a8 a9 a10 w0) [.int x1] ⟨hx, hb, hml, hown, hts⟩ hE hA hS hP (hD w0) (c_X7_isEnvoy l E a0 a1 a2 a3 a4 a5 a6 a7 a8 a9 a10 x1 w0 u_1 hu_1) (cwV 1 hts gX7_as_X7_isEnvoy rfl rfl rfl (by decide +kernel) ⟨(Nat.le_of_ble_eq_true rfl), (Nat.le_of_ble_eq_true rfl)⟩) (va_recv hK hP (ci := 5) (q0 := 0) rfl rfl) rfl hl.1 rfl rfl (Nat.le_of_ble_eq_true rfl) dX7_as_2 ⟨Nat.zero_le _, Nat.zero_le _⟩ (fun locs hS => ?_)
  refine lv_if_eq (pc := 5) (tgt := 18) hx hb dX7_as_5 (by decide) (fun c_2 => ?_) (fun c_2 => ?_)
  · have hq := pv_pos c_2 hq
    exact B_18 w0 H locs ls hP hS (lv_sub hl [0] rfl) hq
  · have hq := pv_neg c_2 hq
    refine lv_iload_n (pc := 8) hx hb dX7_as_8 rfl (lv_at hl 2 rfl) ?_
    refine lv_i2l (pc := 9) (v := x2.toInt64) hx hb dX7_as_9 rfl ?_
    refine lv_iconst (pc := 10) (v := 0) hx hb dX7_as_10 (by decide) ?_
    refine lv_iconst (pc := 11) (v := 5) hx hb dX7_as_11 (by decide) ?_
    refine pv_sRO (pc := 12) (rest := []) (st1 := [.int (m_X7_in x2.toInt64 0 5)]) (ws := pv_wM E a0 a1 a2 a3 a4 a5 a6 a7 a8 a9 a10 w0) [.long x2.toInt64, .int 0, .int 5] ⟨hx, hb, hml, hown, hts⟩ hE hA hS hP (hD w0) (c_X7_in l E x2.toInt64 0 5) (va_cwS 3 hts gX7_as_X7_in rfl rfl rfl (by decide +kernel) ⟨(Nat.le_of_ble_eq_true rfl), (Nat.le_of_ble_eq_true rfl)⟩) [] rfl rfl rfl hl.1 rfl rfl (Nat.le_of_ble_eq_true rfl) dX7_as_12 ⟨Nat.zero_le _, Nat.zero_le _⟩ (fun locs hS => ?_)
    refine lv_if_ne (pc := 15) (tgt := 25) hx hb dX7_as_15 (by decide) (fun c_4 => ?_) (fun c_4 => ?_)
    · have hq := pv_neg c_4 hq
      refine lv_aload_n (pc := 25) hx hb dX7_as_25 rfl (lv_at hl 0 rfl) ?_
      refine lv_iload_n (pc := 26) hx hb dX7_as_26 rfl (lv_at hl 1 rfl) ?_
      refine lv_iconst (pc := 27) (v := 0) hx hb dX7_as_27 (by decide) ?_
      obtain ⟨u_5, hu_5, hq⟩ := pv_bind hq
      refine pv_vROf (pc := 28) (rest := []) (st1 := [.int u_5]) (ws := pv_wM E a0 a1 a2 a3 a4 a5 a6 a7 a8 a9 a10 w0) [.int x1, .int 0] ⟨hx, hb, hml, hown, hts⟩ hE hA hS hP (hD w0) (c_X7_it l E a0 a1 a2 a3 a4 a5 a6 a7 a8 a9 a10 x1 0 w0 u_5 hu_5) (cwV 2 hts gX7_as_X7_it rfl rfl rfl (by decide +kernel) ⟨(Nat.le_of_ble_eq_true rfl), (Nat.le_of_ble_eq_true rfl)⟩) (va_recv hK hP (ci := 5) (q0 := 0) rfl rfl) rfl hl.1 rfl rfl (Nat.le_of_ble_eq_true rfl) dX7_as_28 ⟨Nat.zero_le _, Nat.zero_le _⟩ (fun locs hS => ?_)
      refine lv_istore_n (pc := 31) (lv' := [(3, .int u_5), (0, .ref a0), (1, .int x1), (2, .int x2)]) hx hb dX7_as_31 rfl hl (Nat.le_of_ble_eq_true rfl) rfl (fun ls hl => ?_)
      refine lv_iload_n (pc := 32) hx hb dX7_as_32 rfl (lv_at hl 3 rfl) ?_
      refine lv_if_eq (pc := 33) (tgt := 61) hx hb dX7_as_33 (by decide) (fun c_6 => ?_) (fun c_6 => ?_)
      · have hq := pv_pos c_6 hq
        exact B_61 x1 w0 H locs ls hP hS (lv_sub hl [1, 2] rfl) hq
      · have hq := pv_neg c_6 hq
        refine lv_iload_n (pc := 36) hx hb dX7_as_36 rfl (lv_at hl 3 rfl) ?_
        refine lv_iload_n (pc := 37) hx hb dX7_as_37 rfl (lv_at hl 0 rfl) ?_
        refine lv_icmp_eq (pc := 38) (tgt := 61) hx hb dX7_as_38 (by decide) (fun c_10 => ?_) (fun c_10 => ?_)
        · have hq := pv_pos c_10 hq
          exact B_61 x1 w0 H locs ls hP hS (lv_sub hl [1, 2] rfl) hq
        · have hq := pv_neg c_10 hq
          refine lv_iload_n (pc := 41) hx hb dX7_as_41 rfl (lv_at hl 3 rfl) ?_
          refine lv_iconst (pc := 42) (v := 1) hx hb dX7_as_42 (by decide) ?_
          refine lv_icmp_ne (pc := 43) (tgt := 51) hx hb dX7_as_43 (by decide) (fun c_11 => ?_) (fun c_11 => ?_)
          · have hq := pv_neg c_11 hq
            exact B_51 x1 x2 u_5 w0 H locs ls hP hS (lv_sub hl [1, 2, 3, 0] rfl) hq
          · have hq := pv_pos c_11 hq
            refine lv_iload_n (pc := 46) hx hb dX7_as_46 rfl (lv_at hl 0 rfl) ?_
            refine lv_iconst (pc := 47) (v := 4) hx hb dX7_as_47 (by decide) ?_
            refine lv_icmp_eq (pc := 48) (tgt := 61) hx hb dX7_as_48 (by decide) (fun c_14 => ?_) (fun c_14 => ?_)
            · have hq := pv_pos c_14 hq
              exact B_61 x1 w0 H locs ls hP hS (lv_sub hl [1, 2] rfl) hq
            · have hq := pv_neg c_14 hq
              exact B_51 x1 x2 u_5 w0 H locs ls hP hS (lv_sub hl [1, 2, 3, 0] rfl) hq
    · have hq := pv_pos c_4 hq
      exact B_18 w0 H locs ls hP hS (lv_sub hl [0] rfl) hq
def m_X7_won_36  (w : pv_MT) : Option (Int32 × pv_MT) :=
  Option.bind (m_X7_finds (-1000000001) w) fun u_3 => (some (u_3.1, u_3.2))
def m_X7_won (x1 : Int32) (x2 : Int32) (w : pv_MT) : Option (Int32 × pv_MT) :=
  Option.bind (m_X7_isEnvoy x1 w) fun u_1 => (if u_1 = 0 then (m_X7_won_36 w) else (if (m_X7_in x2.toInt64 0 9999) = 0 then (m_X7_won_36 w) else (Option.bind (m_X7_becomes ((15 + (2 * x1)) + 1) x2 w) fun u_5 => (some (u_5.1, u_5.2)))))
abbrev r_X7_won : Room := { frames := 2, cells := 0, slots := 0, locals := 44 }
set_option maxHeartbeats 4000000 in
set_option maxRecDepth 100000 in
theorem c_X7_won (l : Launch) (E : pv_E) (a0 a1 a2 a3 a4 a5 a6 a7 a8 a9 a10 : Nat) (x1 : Int32) (x2 : Int32) (w0 : pv_MT) (F : Int32 × pv_MT) (hq : m_X7_won x1 x2 w0 = some F) : pv_RW l E yX7_won wsX7_won r_X7_won (pv_wM E a0 a1 a2 a3 a4 a5 a6 a7 a8 a9 a10 w0) [.ref a0, .int x1, .int x2] (some (.int F.1)) (pv_wM E a0 a1 a2 a3 a4 a5 a6 a7 a8 a9 a10 F.2) := by
  intro sz
  refine pv_mk (by decide) rfl (Nat.le_of_ble_eq_true rfl) ?_
  intro p e s m args below meth c A hx hb hr hml hown hts hlk hAe hP hD0 hA hE hS ls hl
  have hown : s.vm.findClass RX7 = some m.cls := hown
  have hK := hE.1
  have hD : ∀ w : pv_MT, va_D A (pv_wM E a0 a1 a2 a3 a4 a5 a6 a7 a8 a9 a10 w) := fun w => pv_Dm (ws := pv_wM E a0 a1 a2 a3 a4 a5 a6 a7 a8 a9 a10 w0) (ws' := pv_wM E a0 a1 a2 a3 a4 a5 a6 a7 a8 a9 a10 w) rfl hD0
  have hP : va_P E.1 vwCl (pv_wM E a0 a1 a2 a3 a4 a5 a6 a7 a8 a9 a10 w0) s.heap := hP
  have lc_41 : (Cond.constant RX7 41 (-1000000001)).before args s = true := hts _ (by decide +kernel)
  have hl : lv_has ls 3 [(0, .ref a0), (1, .int x1), (2, .int x2)] := hl
  have B_36 : ∀  (w : pv_MT) (H : Heap) (locs : List Loc) (ls : Array Slot), va_P E.1 vwCl (pv_wM E a0 a1 a2 a3 a4 a5 a6 a7 a8 a9 a10 w) H → va_S A s.heap H locs → lv_has ls 3 [(0, .ref a0)] → m_X7_won_36 w = some F → W p l e r_X7_won s m args below meth c H locs 0 0 (MQ below (pv_Rw E (pv_wM E a0 a1 a2 a3 a4 a5 a6 a7 a8 a9 a10 w0) sz (some (.int F.1)) ((fun w : pv_MT => pv_wM E a0 a1 a2 a3 a4 a5 a6 a7 a8 a9 a10 w) F.2)) args s 0 0 A) (F0 m 36 ls []) := by
    intro w H locs ls hP hS hl hq
    refine lv_aload_n (pc := 36) hx hb dX7_won_36 rfl (lv_at hl 0 rfl) ?_
    refine lv_ldc (pc := 37) hx hb hown lc_41 dX7_won_37 ?_
    obtain ⟨u_3, hu_3, hq⟩ := pv_bind hq
    refine pv_vRWf (pc := 39) (rest := []) (st1 := [.int u_3.1]) (ws := pv_wM E a0 a1 a2 a3 a4 a5 a6 a7 a8 a9 a10 w) [.int (-1000000001)] ⟨hx, hb, hml, hown, hts⟩ hE hA hS hP (hD w) (c_X7_finds l E a0 a1 a2 a3 a4 a5 a6 a7 a8 a9 a10 (-1000000001) w u_3 hu_3) (cwV 1 hts gX7_won_X7_finds rfl rfl rfl (by decide +kernel) ⟨(Nat.le_of_ble_eq_true rfl), (Nat.le_of_ble_eq_true rfl)⟩) (va_recv hK hP (ci := 5) (q0 := 0) rfl rfl) rfl hl.1 rfl rfl (Nat.le_of_ble_eq_true rfl) dX7_won_39 ⟨Nat.zero_le _, Nat.zero_le _⟩ (fun H locs hP hS => ?_)
    have hP : va_P E.1 vwCl (pv_wM E a0 a1 a2 a3 a4 a5 a6 a7 a8 a9 a10 u_3.2) H := hP
    exact pv_riRW (w := fun w : pv_MT => pv_wM E a0 a1 a2 a3 a4 a5 a6 a7 a8 a9 a10 w) hx hb hr hlk hAe hS hP (Option.some.inj hq) dX7_won_42
  suffices M0 : ∀ (H : Heap) (locs : List Loc), va_P E.1 vwCl (pv_wM E a0 a1 a2 a3 a4 a5 a6 a7 a8 a9 a10 w0) H → va_S A s.heap H locs → W p l e r_X7_won s m args below meth c H locs 0 0 (MQ below (pv_Rw E (pv_wM E a0 a1 a2 a3 a4 a5 a6 a7 a8 a9 a10 w0) sz (some (.int F.1)) ((fun w : pv_MT => pv_wM E a0 a1 a2 a3 a4 a5 a6 a7 a8 a9 a10 w) F.2)) args s 0 0 A) (F0 m 0 ls []) from M0 s.heap [] hP hS
  intro H locs hP hS
  refine lv_aload_n (pc := 0) hx hb dX7_won_0 rfl (lv_at hl 0 rfl) ?_
  refine lv_iload_n (pc := 1) hx hb dX7_won_1 rfl (lv_at hl 1 rfl) ?_
  obtain ⟨u_1, hu_1, hq⟩ := pv_bind hq
  refine pv_vROf (pc := 2) (rest := []) (st1 := [.int u_1]) (ws := pv_wM E a0 a1 a2 a3 a4 a5 a6 a7 a8 a9 a10 w0) [.int x1] ⟨hx, hb, hml, hown, hts⟩ hE hA hS hP (hD w0) (c_X7_isEnvoy l E a0 a1 a2 a3 a4 a5 a6 a7 a8 a9 a10 x1 w0 u_1 hu_1) (cwV 1 hts gX7_won_X7_isEnvoy rfl rfl rfl (by decide +kernel) ⟨(Nat.le_of_ble_eq_true rfl), (Nat.le_of_ble_eq_true rfl)⟩) (va_recv hK hP (ci := 5) (q0 := 0) rfl rfl) rfl hl.1 rfl rfl (Nat.le_of_ble_eq_true rfl) dX7_won_2 ⟨Nat.zero_le _, Nat.zero_le _⟩ (fun locs hS => ?_)
  refine lv_if_eq (pc := 5) (tgt := 36) hx hb dX7_won_5 (by decide) (fun c_2 => ?_) (fun c_2 => ?_)
  · have hq := pv_pos c_2 hq
    exact B_36 w0 H locs ls hP hS (lv_sub hl [0] rfl) hq
  · have hq := pv_neg c_2 hq
    refine lv_iload_n (pc := 8) hx hb dX7_won_8 rfl (lv_at hl 2 rfl) ?_
    refine lv_i2l (pc := 9) (v := x2.toInt64) hx hb dX7_won_9 rfl ?_
    refine lv_iconst (pc := 10) (v := 0) hx hb dX7_won_10 (by decide) ?_
    refine lv_sipush (pc := 11) (v := 9999) hx hb dX7_won_11 (by decide) ?_
    refine pv_sRO (pc := 14) (rest := []) (st1 := [.int (m_X7_in x2.toInt64 0 9999)]) (ws := pv_wM E a0 a1 a2 a3 a4 a5 a6 a7 a8 a9 a10 w0) [.long x2.toInt64, .int 0, .int 9999] ⟨hx, hb, hml, hown, hts⟩ hE hA hS hP (hD w0) (c_X7_in l E x2.toInt64 0 9999) (va_cwS 3 hts gX7_won_X7_in rfl rfl rfl (by decide +kernel) ⟨(Nat.le_of_ble_eq_true rfl), (Nat.le_of_ble_eq_true rfl)⟩) [] rfl rfl rfl hl.1 rfl rfl (Nat.le_of_ble_eq_true rfl) dX7_won_14 ⟨Nat.zero_le _, Nat.zero_le _⟩ (fun locs hS => ?_)
    refine lv_if_eq (pc := 17) (tgt := 36) hx hb dX7_won_17 (by decide) (fun c_4 => ?_) (fun c_4 => ?_)
    · have hq := pv_pos c_4 hq
      exact B_36 w0 H locs ls hP hS (lv_sub hl [0] rfl) hq
    · have hq := pv_neg c_4 hq
      refine lv_aload_n (pc := 20) hx hb dX7_won_20 rfl (lv_at hl 0 rfl) ?_
      refine lv_bipush (pc := 21) (v := 15) hx hb dX7_won_21 (by decide) ?_
      refine lv_iconst (pc := 23) (v := 2) hx hb dX7_won_23 (by decide) ?_
      refine lv_iload_n (pc := 24) hx hb dX7_won_24 rfl (lv_at hl 1 rfl) ?_
      refine lv_imul (pc := 25) hx hb dX7_won_25 ?_
      refine lv_iadd (pc := 26) hx hb dX7_won_26 ?_
      refine lv_iconst (pc := 27) (v := 1) hx hb dX7_won_27 (by decide) ?_
      refine lv_iadd (pc := 28) hx hb dX7_won_28 ?_
      refine lv_iload_n (pc := 29) hx hb dX7_won_29 rfl (lv_at hl 2 rfl) ?_
      obtain ⟨u_5, hu_5, hq⟩ := pv_bind hq
      refine pv_vRWf (pc := 30) (rest := []) (st1 := [.int u_5.1]) (ws := pv_wM E a0 a1 a2 a3 a4 a5 a6 a7 a8 a9 a10 w0) [.int ((15 + (2 * x1)) + 1), .int x2] ⟨hx, hb, hml, hown, hts⟩ hE hA hS hP (hD w0) (c_X7_becomes l E a0 a1 a2 a3 a4 a5 a6 a7 a8 a9 a10 ((15 + (2 * x1)) + 1) x2 w0 u_5 hu_5) (cwV 2 hts gX7_won_X7_becomes rfl rfl rfl (by decide +kernel) ⟨(Nat.le_of_ble_eq_true rfl), (Nat.le_of_ble_eq_true rfl)⟩) (va_recv hK hP (ci := 5) (q0 := 0) rfl rfl) rfl hl.1 rfl rfl (Nat.le_of_ble_eq_true rfl) dX7_won_30 ⟨Nat.zero_le _, Nat.zero_le _⟩ (fun H locs hP hS => ?_)
      have hP : va_P E.1 vwCl (pv_wM E a0 a1 a2 a3 a4 a5 a6 a7 a8 a9 a10 u_5.2) H := hP
      refine lv_goto (pc := 33) (tgt := 42) hx hb dX7_won_33 (by decide) ?_
      exact pv_riRW (w := fun w : pv_MT => pv_wM E a0 a1 a2 a3 a4 a5 a6 a7 a8 a9 a10 w) hx hb hr hlk hAe hS hP (Option.some.inj hq) dX7_won_42
def m_X7_send_31  (w : pv_MT) : Option (Int32 × pv_MT) :=
  Option.bind (m_X7_finds (-1000000001) w) fun u_3 => (some (u_3.1, u_3.2))
def m_X7_send_20 (x1 : Int32) (x2 : Int32) (w : pv_MT) : Option (Int32 × pv_MT) :=
  Option.bind (m_X7_becomes (3 + x1) x2 w) fun u_5 => (some (u_5.1, u_5.2))
def m_X7_send (x1 : Int32) (x2 : Int32) (w : pv_MT) : Option (Int32 × pv_MT) :=
  Option.bind (m_X7_isState x1) fun u_1 => (if u_1 = 0 then (m_X7_send_31 w) else (if x2 = (-1) then (m_X7_send_20 x1 x2 w) else (Option.bind (m_X7_isEnvoy x2 w) fun u_6 => (if u_6 = 0 then (m_X7_send_31 w) else (m_X7_send_20 x1 x2 w)))))
abbrev r_X7_send : Room := { frames := 2, cells := 0, slots := 0, locals := 44 }
set_option maxHeartbeats 4000000 in
set_option maxRecDepth 100000 in
theorem c_X7_send (l : Launch) (E : pv_E) (a0 a1 a2 a3 a4 a5 a6 a7 a8 a9 a10 : Nat) (x1 : Int32) (x2 : Int32) (w0 : pv_MT) (F : Int32 × pv_MT) (hq : m_X7_send x1 x2 w0 = some F) : pv_RW l E yX7_send wsX7_send r_X7_send (pv_wM E a0 a1 a2 a3 a4 a5 a6 a7 a8 a9 a10 w0) [.ref a0, .int x1, .int x2] (some (.int F.1)) (pv_wM E a0 a1 a2 a3 a4 a5 a6 a7 a8 a9 a10 F.2) := by
  intro sz
  refine pv_mk (by decide) rfl (Nat.le_of_ble_eq_true rfl) ?_
  intro p e s m args below meth c A hx hb hr hml hown hts hlk hAe hP hD0 hA hE hS ls hl
  have hown : s.vm.findClass RX7 = some m.cls := hown
  have hK := hE.1
  have hD : ∀ w : pv_MT, va_D A (pv_wM E a0 a1 a2 a3 a4 a5 a6 a7 a8 a9 a10 w) := fun w => pv_Dm (ws := pv_wM E a0 a1 a2 a3 a4 a5 a6 a7 a8 a9 a10 w0) (ws' := pv_wM E a0 a1 a2 a3 a4 a5 a6 a7 a8 a9 a10 w) rfl hD0
  have hP : va_P E.1 vwCl (pv_wM E a0 a1 a2 a3 a4 a5 a6 a7 a8 a9 a10 w0) s.heap := hP
  have lc_41 : (Cond.constant RX7 41 (-1000000001)).before args s = true := hts _ (by decide +kernel)
  have hl : lv_has ls 3 [(0, .ref a0), (1, .int x1), (2, .int x2)] := hl
  have B_31 : ∀  (w : pv_MT) (H : Heap) (locs : List Loc) (ls : Array Slot), va_P E.1 vwCl (pv_wM E a0 a1 a2 a3 a4 a5 a6 a7 a8 a9 a10 w) H → va_S A s.heap H locs → lv_has ls 3 [(0, .ref a0)] → m_X7_send_31 w = some F → W p l e r_X7_send s m args below meth c H locs 0 0 (MQ below (pv_Rw E (pv_wM E a0 a1 a2 a3 a4 a5 a6 a7 a8 a9 a10 w0) sz (some (.int F.1)) ((fun w : pv_MT => pv_wM E a0 a1 a2 a3 a4 a5 a6 a7 a8 a9 a10 w) F.2)) args s 0 0 A) (F0 m 31 ls []) := by
    intro w H locs ls hP hS hl hq
    refine lv_aload_n (pc := 31) hx hb dX7_send_31 rfl (lv_at hl 0 rfl) ?_
    refine lv_ldc (pc := 32) hx hb hown lc_41 dX7_send_32 ?_
    obtain ⟨u_3, hu_3, hq⟩ := pv_bind hq
    refine pv_vRWf (pc := 34) (rest := []) (st1 := [.int u_3.1]) (ws := pv_wM E a0 a1 a2 a3 a4 a5 a6 a7 a8 a9 a10 w) [.int (-1000000001)] ⟨hx, hb, hml, hown, hts⟩ hE hA hS hP (hD w) (c_X7_finds l E a0 a1 a2 a3 a4 a5 a6 a7 a8 a9 a10 (-1000000001) w u_3 hu_3) (cwV 1 hts gX7_send_X7_finds rfl rfl rfl (by decide +kernel) ⟨(Nat.le_of_ble_eq_true rfl), (Nat.le_of_ble_eq_true rfl)⟩) (va_recv hK hP (ci := 5) (q0 := 0) rfl rfl) rfl hl.1 rfl rfl (Nat.le_of_ble_eq_true rfl) dX7_send_34 ⟨Nat.zero_le _, Nat.zero_le _⟩ (fun H locs hP hS => ?_)
    have hP : va_P E.1 vwCl (pv_wM E a0 a1 a2 a3 a4 a5 a6 a7 a8 a9 a10 u_3.2) H := hP
    exact pv_riRW (w := fun w : pv_MT => pv_wM E a0 a1 a2 a3 a4 a5 a6 a7 a8 a9 a10 w) hx hb hr hlk hAe hS hP (Option.some.inj hq) dX7_send_37
  have B_20 : ∀ (x1 : Int32) (x2 : Int32) (w : pv_MT) (H : Heap) (locs : List Loc) (ls : Array Slot), va_P E.1 vwCl (pv_wM E a0 a1 a2 a3 a4 a5 a6 a7 a8 a9 a10 w) H → va_S A s.heap H locs → lv_has ls 3 [(0, .ref a0), (1, .int x1), (2, .int x2)] → m_X7_send_20 x1 x2 w = some F → W p l e r_X7_send s m args below meth c H locs 0 0 (MQ below (pv_Rw E (pv_wM E a0 a1 a2 a3 a4 a5 a6 a7 a8 a9 a10 w0) sz (some (.int F.1)) ((fun w : pv_MT => pv_wM E a0 a1 a2 a3 a4 a5 a6 a7 a8 a9 a10 w) F.2)) args s 0 0 A) (F0 m 20 ls []) := by
    intro x1 x2 w H locs ls hP hS hl hq
    refine lv_aload_n (pc := 20) hx hb dX7_send_20 rfl (lv_at hl 0 rfl) ?_
    refine lv_iconst (pc := 21) (v := 3) hx hb dX7_send_21 (by decide) ?_
    refine lv_iload_n (pc := 22) hx hb dX7_send_22 rfl (lv_at hl 1 rfl) ?_
    refine lv_iadd (pc := 23) hx hb dX7_send_23 ?_
    refine lv_iload_n (pc := 24) hx hb dX7_send_24 rfl (lv_at hl 2 rfl) ?_
    obtain ⟨u_5, hu_5, hq⟩ := pv_bind hq
    refine pv_vRWf (pc := 25) (rest := []) (st1 := [.int u_5.1]) (ws := pv_wM E a0 a1 a2 a3 a4 a5 a6 a7 a8 a9 a10 w) [.int (3 + x1), .int x2] ⟨hx, hb, hml, hown, hts⟩ hE hA hS hP (hD w) (c_X7_becomes l E a0 a1 a2 a3 a4 a5 a6 a7 a8 a9 a10 (3 + x1) x2 w u_5 hu_5) (cwV 2 hts gX7_send_X7_becomes rfl rfl rfl (by decide +kernel) ⟨(Nat.le_of_ble_eq_true rfl), (Nat.le_of_ble_eq_true rfl)⟩) (va_recv hK hP (ci := 5) (q0 := 0) rfl rfl) rfl hl.1 rfl rfl (Nat.le_of_ble_eq_true rfl) dX7_send_25 ⟨Nat.zero_le _, Nat.zero_le _⟩ (fun H locs hP hS => ?_)
    have hP : va_P E.1 vwCl (pv_wM E a0 a1 a2 a3 a4 a5 a6 a7 a8 a9 a10 u_5.2) H := hP
    refine lv_goto (pc := 28) (tgt := 37) hx hb dX7_send_28 (by decide) ?_
    exact pv_riRW (w := fun w : pv_MT => pv_wM E a0 a1 a2 a3 a4 a5 a6 a7 a8 a9 a10 w) hx hb hr hlk hAe hS hP (Option.some.inj hq) dX7_send_37
  suffices M0 : ∀ (H : Heap) (locs : List Loc), va_P E.1 vwCl (pv_wM E a0 a1 a2 a3 a4 a5 a6 a7 a8 a9 a10 w0) H → va_S A s.heap H locs → W p l e r_X7_send s m args below meth c H locs 0 0 (MQ below (pv_Rw E (pv_wM E a0 a1 a2 a3 a4 a5 a6 a7 a8 a9 a10 w0) sz (some (.int F.1)) ((fun w : pv_MT => pv_wM E a0 a1 a2 a3 a4 a5 a6 a7 a8 a9 a10 w) F.2)) args s 0 0 A) (F0 m 0 ls []) from M0 s.heap [] hP hS
  intro H locs hP hS
  refine lv_iload_n (pc := 0) hx hb dX7_send_0 rfl (lv_at hl 1 rfl) ?_
  obtain ⟨u_1, hu_1, hq⟩ := pv_bind hq
  refine pv_sRO (pc := 1) (rest := []) (st1 := [.int u_1]) (ws := pv_wM E a0 a1 a2 a3 a4 a5 a6 a7 a8 a9 a10 w0) [.int x1] ⟨hx, hb, hml, hown, hts⟩ hE hA hS hP (hD w0) (c_X7_isState l E x1 u_1 hu_1) (va_cwS 1 hts gX7_send_X7_isState rfl rfl rfl (by decide +kernel) ⟨(Nat.le_of_ble_eq_true rfl), (Nat.le_of_ble_eq_true rfl)⟩) [] rfl rfl rfl hl.1 rfl rfl (Nat.le_of_ble_eq_true rfl) dX7_send_1 ⟨Nat.zero_le _, Nat.zero_le _⟩ (fun locs hS => ?_)
  refine lv_if_eq (pc := 4) (tgt := 31) hx hb dX7_send_4 (by decide) (fun c_2 => ?_) (fun c_2 => ?_)
  · have hq := pv_pos c_2 hq
    exact B_31 w0 H locs ls hP hS (lv_sub hl [0] rfl) hq
  · have hq := pv_neg c_2 hq
    refine lv_iload_n (pc := 7) hx hb dX7_send_7 rfl (lv_at hl 2 rfl) ?_
    refine lv_iconst (pc := 8) (v := (-1)) hx hb dX7_send_8 (by decide) ?_
    refine lv_icmp_eq (pc := 9) (tgt := 20) hx hb dX7_send_9 (by decide) (fun c_4 => ?_) (fun c_4 => ?_)
    · have hq := pv_pos c_4 hq
      exact B_20 x1 x2 w0 H locs ls hP hS (lv_sub hl [0, 1, 2] rfl) hq
    · have hq := pv_neg c_4 hq
      refine lv_aload_n (pc := 12) hx hb dX7_send_12 rfl (lv_at hl 0 rfl) ?_
      refine lv_iload_n (pc := 13) hx hb dX7_send_13 rfl (lv_at hl 2 rfl) ?_
      obtain ⟨u_6, hu_6, hq⟩ := pv_bind hq
      refine pv_vROf (pc := 14) (rest := []) (st1 := [.int u_6]) (ws := pv_wM E a0 a1 a2 a3 a4 a5 a6 a7 a8 a9 a10 w0) [.int x2] ⟨hx, hb, hml, hown, hts⟩ hE hA hS hP (hD w0) (c_X7_isEnvoy l E a0 a1 a2 a3 a4 a5 a6 a7 a8 a9 a10 x2 w0 u_6 hu_6) (cwV 1 hts gX7_send_X7_isEnvoy rfl rfl rfl (by decide +kernel) ⟨(Nat.le_of_ble_eq_true rfl), (Nat.le_of_ble_eq_true rfl)⟩) (va_recv hK hP (ci := 5) (q0 := 0) rfl rfl) rfl hl.1 rfl rfl (Nat.le_of_ble_eq_true rfl) dX7_send_14 ⟨Nat.zero_le _, Nat.zero_le _⟩ (fun locs hS => ?_)
      refine lv_if_eq (pc := 17) (tgt := 31) hx hb dX7_send_17 (by decide) (fun c_7 => ?_) (fun c_7 => ?_)
      · have hq := pv_pos c_7 hq
        exact B_31 w0 H locs ls hP hS (lv_sub hl [0] rfl) hq
      · have hq := pv_neg c_7 hq
        exact B_20 x1 x2 w0 H locs ls hP hS (lv_sub hl [0, 1, 2] rfl) hq
def m_X7_leads_28  (w : pv_MT) : Option (Int32 × pv_MT) :=
  Option.bind (m_X7_finds (-1000000001) w) fun u_3 => (some (u_3.1, u_3.2))
def m_X7_leads (x1 : Int32) (x2 : Int32) (w : pv_MT) : Option (Int32 × pv_MT) :=
  Option.bind (m_X7_isEnvoy x1 w) fun u_1 => (if u_1 = 0 then (m_X7_leads_28 w) else (Option.bind (m_X7_isState x2) fun u_4 => (if u_4 = 0 then (m_X7_leads_28 w) else (Option.bind (m_X7_handOf x2 w) fun u_6 => (Option.bind (m_X7_ledBy x1 u_6 w) fun u_7 => (some (u_7, w)))))))
abbrev r_X7_leads : Room := { frames := 3, cells := 0, slots := 0, locals := 66 }
set_option maxHeartbeats 4000000 in
set_option maxRecDepth 100000 in
theorem c_X7_leads (l : Launch) (E : pv_E) (a0 a1 a2 a3 a4 a5 a6 a7 a8 a9 a10 : Nat) (x1 : Int32) (x2 : Int32) (w0 : pv_MT) (F : Int32 × pv_MT) (hq : m_X7_leads x1 x2 w0 = some F) : pv_RW l E yX7_leads wsX7_leads r_X7_leads (pv_wM E a0 a1 a2 a3 a4 a5 a6 a7 a8 a9 a10 w0) [.ref a0, .int x1, .int x2] (some (.int F.1)) (pv_wM E a0 a1 a2 a3 a4 a5 a6 a7 a8 a9 a10 F.2) := by
  intro sz
  refine pv_mk (by decide) rfl (Nat.le_of_ble_eq_true rfl) ?_
  intro p e s m args below meth c A hx hb hr hml hown hts hlk hAe hP hD0 hA hE hS ls hl
  have hown : s.vm.findClass RX7 = some m.cls := hown
  have hK := hE.1
  have hD : ∀ w : pv_MT, va_D A (pv_wM E a0 a1 a2 a3 a4 a5 a6 a7 a8 a9 a10 w) := fun w => pv_Dm (ws := pv_wM E a0 a1 a2 a3 a4 a5 a6 a7 a8 a9 a10 w0) (ws' := pv_wM E a0 a1 a2 a3 a4 a5 a6 a7 a8 a9 a10 w) rfl hD0
  have hP : va_P E.1 vwCl (pv_wM E a0 a1 a2 a3 a4 a5 a6 a7 a8 a9 a10 w0) s.heap := hP
  have lc_41 : (Cond.constant RX7 41 (-1000000001)).before args s = true := hts _ (by decide +kernel)
  have hl : lv_has ls 3 [(0, .ref a0), (1, .int x1), (2, .int x2)] := hl
  have B_28 : ∀  (w : pv_MT) (H : Heap) (locs : List Loc) (ls : Array Slot), va_P E.1 vwCl (pv_wM E a0 a1 a2 a3 a4 a5 a6 a7 a8 a9 a10 w) H → va_S A s.heap H locs → lv_has ls 3 [(0, .ref a0)] → m_X7_leads_28 w = some F → W p l e r_X7_leads s m args below meth c H locs 0 0 (MQ below (pv_Rw E (pv_wM E a0 a1 a2 a3 a4 a5 a6 a7 a8 a9 a10 w0) sz (some (.int F.1)) ((fun w : pv_MT => pv_wM E a0 a1 a2 a3 a4 a5 a6 a7 a8 a9 a10 w) F.2)) args s 0 0 A) (F0 m 28 ls []) := by
    intro w H locs ls hP hS hl hq
    refine lv_aload_n (pc := 28) hx hb dX7_leads_28 rfl (lv_at hl 0 rfl) ?_
    refine lv_ldc (pc := 29) hx hb hown lc_41 dX7_leads_29 ?_
    obtain ⟨u_3, hu_3, hq⟩ := pv_bind hq
    refine pv_vRWf (pc := 31) (rest := []) (st1 := [.int u_3.1]) (ws := pv_wM E a0 a1 a2 a3 a4 a5 a6 a7 a8 a9 a10 w) [.int (-1000000001)] ⟨hx, hb, hml, hown, hts⟩ hE hA hS hP (hD w) (c_X7_finds l E a0 a1 a2 a3 a4 a5 a6 a7 a8 a9 a10 (-1000000001) w u_3 hu_3) (cwV 1 hts gX7_leads_X7_finds rfl rfl rfl (by decide +kernel) ⟨(Nat.le_of_ble_eq_true rfl), (Nat.le_of_ble_eq_true rfl)⟩) (va_recv hK hP (ci := 5) (q0 := 0) rfl rfl) rfl hl.1 rfl rfl (Nat.le_of_ble_eq_true rfl) dX7_leads_31 ⟨Nat.zero_le _, Nat.zero_le _⟩ (fun H locs hP hS => ?_)
    have hP : va_P E.1 vwCl (pv_wM E a0 a1 a2 a3 a4 a5 a6 a7 a8 a9 a10 u_3.2) H := hP
    exact pv_riRW (w := fun w : pv_MT => pv_wM E a0 a1 a2 a3 a4 a5 a6 a7 a8 a9 a10 w) hx hb hr hlk hAe hS hP (Option.some.inj hq) dX7_leads_34
  suffices M0 : ∀ (H : Heap) (locs : List Loc), va_P E.1 vwCl (pv_wM E a0 a1 a2 a3 a4 a5 a6 a7 a8 a9 a10 w0) H → va_S A s.heap H locs → W p l e r_X7_leads s m args below meth c H locs 0 0 (MQ below (pv_Rw E (pv_wM E a0 a1 a2 a3 a4 a5 a6 a7 a8 a9 a10 w0) sz (some (.int F.1)) ((fun w : pv_MT => pv_wM E a0 a1 a2 a3 a4 a5 a6 a7 a8 a9 a10 w) F.2)) args s 0 0 A) (F0 m 0 ls []) from M0 s.heap [] hP hS
  intro H locs hP hS
  refine lv_aload_n (pc := 0) hx hb dX7_leads_0 rfl (lv_at hl 0 rfl) ?_
  refine lv_iload_n (pc := 1) hx hb dX7_leads_1 rfl (lv_at hl 1 rfl) ?_
  obtain ⟨u_1, hu_1, hq⟩ := pv_bind hq
  refine pv_vROf (pc := 2) (rest := []) (st1 := [.int u_1]) (ws := pv_wM E a0 a1 a2 a3 a4 a5 a6 a7 a8 a9 a10 w0) [.int x1] ⟨hx, hb, hml, hown, hts⟩ hE hA hS hP (hD w0) (c_X7_isEnvoy l E a0 a1 a2 a3 a4 a5 a6 a7 a8 a9 a10 x1 w0 u_1 hu_1) (cwV 1 hts gX7_leads_X7_isEnvoy rfl rfl rfl (by decide +kernel) ⟨(Nat.le_of_ble_eq_true rfl), (Nat.le_of_ble_eq_true rfl)⟩) (va_recv hK hP (ci := 5) (q0 := 0) rfl rfl) rfl hl.1 rfl rfl (Nat.le_of_ble_eq_true rfl) dX7_leads_2 ⟨Nat.zero_le _, Nat.zero_le _⟩ (fun locs hS => ?_)
  refine lv_if_eq (pc := 5) (tgt := 28) hx hb dX7_leads_5 (by decide) (fun c_2 => ?_) (fun c_2 => ?_)
  · have hq := pv_pos c_2 hq
    exact B_28 w0 H locs ls hP hS (lv_sub hl [0] rfl) hq
  · have hq := pv_neg c_2 hq
    refine lv_iload_n (pc := 8) hx hb dX7_leads_8 rfl (lv_at hl 2 rfl) ?_
    obtain ⟨u_4, hu_4, hq⟩ := pv_bind hq
    refine pv_sRO (pc := 9) (rest := []) (st1 := [.int u_4]) (ws := pv_wM E a0 a1 a2 a3 a4 a5 a6 a7 a8 a9 a10 w0) [.int x2] ⟨hx, hb, hml, hown, hts⟩ hE hA hS hP (hD w0) (c_X7_isState l E x2 u_4 hu_4) (va_cwS 1 hts gX7_leads_X7_isState rfl rfl rfl (by decide +kernel) ⟨(Nat.le_of_ble_eq_true rfl), (Nat.le_of_ble_eq_true rfl)⟩) [] rfl rfl rfl hl.1 rfl rfl (Nat.le_of_ble_eq_true rfl) dX7_leads_9 ⟨Nat.zero_le _, Nat.zero_le _⟩ (fun locs hS => ?_)
    refine lv_if_eq (pc := 12) (tgt := 28) hx hb dX7_leads_12 (by decide) (fun c_5 => ?_) (fun c_5 => ?_)
    · have hq := pv_pos c_5 hq
      exact B_28 w0 H locs ls hP hS (lv_sub hl [0] rfl) hq
    · have hq := pv_neg c_5 hq
      refine lv_aload_n (pc := 15) hx hb dX7_leads_15 rfl (lv_at hl 0 rfl) ?_
      refine lv_iload_n (pc := 16) hx hb dX7_leads_16 rfl (lv_at hl 1 rfl) ?_
      refine lv_aload_n (pc := 17) hx hb dX7_leads_17 rfl (lv_at hl 0 rfl) ?_
      refine lv_iload_n (pc := 18) hx hb dX7_leads_18 rfl (lv_at hl 2 rfl) ?_
      obtain ⟨u_6, hu_6, hq⟩ := pv_bind hq
      refine pv_vROf (pc := 19) (rest := [.int x1, .ref a0]) (st1 := [.int u_6, .int x1, .ref a0]) (ws := pv_wM E a0 a1 a2 a3 a4 a5 a6 a7 a8 a9 a10 w0) [.int x2] ⟨hx, hb, hml, hown, hts⟩ hE hA hS hP (hD w0) (c_X7_handOf l E a0 a1 a2 a3 a4 a5 a6 a7 a8 a9 a10 x2 w0 u_6 hu_6) (cwV 1 hts gX7_leads_X7_handOf rfl rfl rfl (by decide +kernel) ⟨(Nat.le_of_ble_eq_true rfl), (Nat.le_of_ble_eq_true rfl)⟩) (va_recv hK hP (ci := 5) (q0 := 0) rfl rfl) rfl hl.1 rfl rfl (Nat.le_of_ble_eq_true rfl) dX7_leads_19 ⟨Nat.zero_le _, Nat.zero_le _⟩ (fun locs hS => ?_)
      obtain ⟨u_7, hu_7, hq⟩ := pv_bind hq
      refine pv_vROf (pc := 22) (rest := []) (st1 := [.int u_7]) (ws := pv_wM E a0 a1 a2 a3 a4 a5 a6 a7 a8 a9 a10 w0) [.int x1, .int u_6] ⟨hx, hb, hml, hown, hts⟩ hE hA hS hP (hD w0) (c_X7_ledBy l E a0 a1 a2 a3 a4 a5 a6 a7 a8 a9 a10 x1 u_6 w0 u_7 hu_7) (cwV 2 hts gX7_leads_X7_ledBy rfl rfl rfl (by decide +kernel) ⟨(Nat.le_of_ble_eq_true rfl), (Nat.le_of_ble_eq_true rfl)⟩) (va_recv hK hP (ci := 5) (q0 := 0) rfl rfl) rfl hl.1 rfl rfl (Nat.le_of_ble_eq_true rfl) dX7_leads_22 ⟨Nat.zero_le _, Nat.zero_le _⟩ (fun locs hS => ?_)
      refine lv_goto (pc := 25) (tgt := 34) hx hb dX7_leads_25 (by decide) ?_
      exact pv_riRW (w := fun w : pv_MT => pv_wM E a0 a1 a2 a3 a4 a5 a6 a7 a8 a9 a10 w) hx hb hr hlk hAe hS hP (Option.some.inj hq) dX7_leads_34
def m_X7_follows_40  (w : pv_MT) : Option (Int32 × pv_MT) :=
  Option.bind (m_X7_finds (-1000000001) w) fun u_3 => (some (u_3.1, u_3.2))
def m_X7_follows (x1 : Int32) (x2 : Int32) (x3 : Int32) (w : pv_MT) : Option (Int32 × pv_MT) :=
  Option.bind (m_X7_isEnvoy x1 w) fun u_1 => (if u_1 = 0 then (m_X7_follows_40 w) else (Option.bind (m_X7_isState x2) fun u_4 => (if u_4 = 0 then (m_X7_follows_40 w) else (if (m_X7_in x3.toInt64 0 31) = 0 then (m_X7_follows_40 w) else (Option.bind (m_X7_handOf x2 w) fun u_7 => (Option.bind (m_X7_followedBy x1 u_7 x3 w) fun u_8 => (some (u_8, w))))))))
abbrev r_X7_follows : Room := { frames := 4, cells := 0, slots := 0, locals := 94 }
set_option maxHeartbeats 4000000 in
set_option maxRecDepth 100000 in
theorem c_X7_follows (l : Launch) (E : pv_E) (a0 a1 a2 a3 a4 a5 a6 a7 a8 a9 a10 : Nat) (x1 : Int32) (x2 : Int32) (x3 : Int32) (w0 : pv_MT) (F : Int32 × pv_MT) (hq : m_X7_follows x1 x2 x3 w0 = some F) : pv_RW l E yX7_follows wsX7_follows r_X7_follows (pv_wM E a0 a1 a2 a3 a4 a5 a6 a7 a8 a9 a10 w0) [.ref a0, .int x1, .int x2, .int x3] (some (.int F.1)) (pv_wM E a0 a1 a2 a3 a4 a5 a6 a7 a8 a9 a10 F.2) := by
  intro sz
  refine pv_mk (by decide) rfl (Nat.le_of_ble_eq_true rfl) ?_
  intro p e s m args below meth c A hx hb hr hml hown hts hlk hAe hP hD0 hA hE hS ls hl
  have hown : s.vm.findClass RX7 = some m.cls := hown
  have hK := hE.1
  have hD : ∀ w : pv_MT, va_D A (pv_wM E a0 a1 a2 a3 a4 a5 a6 a7 a8 a9 a10 w) := fun w => pv_Dm (ws := pv_wM E a0 a1 a2 a3 a4 a5 a6 a7 a8 a9 a10 w0) (ws' := pv_wM E a0 a1 a2 a3 a4 a5 a6 a7 a8 a9 a10 w) rfl hD0
  have hP : va_P E.1 vwCl (pv_wM E a0 a1 a2 a3 a4 a5 a6 a7 a8 a9 a10 w0) s.heap := hP
  have lc_41 : (Cond.constant RX7 41 (-1000000001)).before args s = true := hts _ (by decide +kernel)
  have hl : lv_has ls 4 [(0, .ref a0), (1, .int x1), (2, .int x2), (3, .int x3)] := hl
  have B_40 : ∀  (w : pv_MT) (H : Heap) (locs : List Loc) (ls : Array Slot), va_P E.1 vwCl (pv_wM E a0 a1 a2 a3 a4 a5 a6 a7 a8 a9 a10 w) H → va_S A s.heap H locs → lv_has ls 4 [(0, .ref a0)] → m_X7_follows_40 w = some F → W p l e r_X7_follows s m args below meth c H locs 0 0 (MQ below (pv_Rw E (pv_wM E a0 a1 a2 a3 a4 a5 a6 a7 a8 a9 a10 w0) sz (some (.int F.1)) ((fun w : pv_MT => pv_wM E a0 a1 a2 a3 a4 a5 a6 a7 a8 a9 a10 w) F.2)) args s 0 0 A) (F0 m 40 ls []) := by
    intro w H locs ls hP hS hl hq
    refine lv_aload_n (pc := 40) hx hb dX7_follows_40 rfl (lv_at hl 0 rfl) ?_
    refine lv_ldc (pc := 41) hx hb hown lc_41 dX7_follows_41 ?_
    obtain ⟨u_3, hu_3, hq⟩ := pv_bind hq
    refine pv_vRWf (pc := 43) (rest := []) (st1 := [.int u_3.1]) (ws := pv_wM E a0 a1 a2 a3 a4 a5 a6 a7 a8 a9 a10 w) [.int (-1000000001)] ⟨hx, hb, hml, hown, hts⟩ hE hA hS hP (hD w) (c_X7_finds l E a0 a1 a2 a3 a4 a5 a6 a7 a8 a9 a10 (-1000000001) w u_3 hu_3) (cwV 1 hts gX7_follows_X7_finds rfl rfl rfl (by decide +kernel) ⟨(Nat.le_of_ble_eq_true rfl), (Nat.le_of_ble_eq_true rfl)⟩) (va_recv hK hP (ci := 5) (q0 := 0) rfl rfl) rfl hl.1 rfl rfl (Nat.le_of_ble_eq_true rfl) dX7_follows_43 ⟨Nat.zero_le _, Nat.zero_le _⟩ (fun H locs hP hS => ?_)
    have hP : va_P E.1 vwCl (pv_wM E a0 a1 a2 a3 a4 a5 a6 a7 a8 a9 a10 u_3.2) H := hP
    exact pv_riRW (w := fun w : pv_MT => pv_wM E a0 a1 a2 a3 a4 a5 a6 a7 a8 a9 a10 w) hx hb hr hlk hAe hS hP (Option.some.inj hq) dX7_follows_46
  suffices M0 : ∀ (H : Heap) (locs : List Loc), va_P E.1 vwCl (pv_wM E a0 a1 a2 a3 a4 a5 a6 a7 a8 a9 a10 w0) H → va_S A s.heap H locs → W p l e r_X7_follows s m args below meth c H locs 0 0 (MQ below (pv_Rw E (pv_wM E a0 a1 a2 a3 a4 a5 a6 a7 a8 a9 a10 w0) sz (some (.int F.1)) ((fun w : pv_MT => pv_wM E a0 a1 a2 a3 a4 a5 a6 a7 a8 a9 a10 w) F.2)) args s 0 0 A) (F0 m 0 ls []) from M0 s.heap [] hP hS
  intro H locs hP hS
  refine lv_aload_n (pc := 0) hx hb dX7_follows_0 rfl (lv_at hl 0 rfl) ?_
  refine lv_iload_n (pc := 1) hx hb dX7_follows_1 rfl (lv_at hl 1 rfl) ?_
  obtain ⟨u_1, hu_1, hq⟩ := pv_bind hq
  refine pv_vROf (pc := 2) (rest := []) (st1 := [.int u_1]) (ws := pv_wM E a0 a1 a2 a3 a4 a5 a6 a7 a8 a9 a10 w0) [.int x1] ⟨hx, hb, hml, hown, hts⟩ hE hA hS hP (hD w0) (c_X7_isEnvoy l E a0 a1 a2 a3 a4 a5 a6 a7 a8 a9 a10 x1 w0 u_1 hu_1) (cwV 1 hts gX7_follows_X7_isEnvoy rfl rfl rfl (by decide +kernel) ⟨(Nat.le_of_ble_eq_true rfl), (Nat.le_of_ble_eq_true rfl)⟩) (va_recv hK hP (ci := 5) (q0 := 0) rfl rfl) rfl hl.1 rfl rfl (Nat.le_of_ble_eq_true rfl) dX7_follows_2 ⟨Nat.zero_le _, Nat.zero_le _⟩ (fun locs hS => ?_)
  refine lv_if_eq (pc := 5) (tgt := 40) hx hb dX7_follows_5 (by decide) (fun c_2 => ?_) (fun c_2 => ?_)
  · have hq := pv_pos c_2 hq
    exact B_40 w0 H locs ls hP hS (lv_sub hl [0] rfl) hq
  · have hq := pv_neg c_2 hq
    refine lv_iload_n (pc := 8) hx hb dX7_follows_8 rfl (lv_at hl 2 rfl) ?_
    obtain ⟨u_4, hu_4, hq⟩ := pv_bind hq
    refine pv_sRO (pc := 9) (rest := []) (st1 := [.int u_4]) (ws := pv_wM E a0 a1 a2 a3 a4 a5 a6 a7 a8 a9 a10 w0) [.int x2] ⟨hx, hb, hml, hown, hts⟩ hE hA hS hP (hD w0) (c_X7_isState l E x2 u_4 hu_4) (va_cwS 1 hts gX7_follows_X7_isState rfl rfl rfl (by decide +kernel) ⟨(Nat.le_of_ble_eq_true rfl), (Nat.le_of_ble_eq_true rfl)⟩) [] rfl rfl rfl hl.1 rfl rfl (Nat.le_of_ble_eq_true rfl) dX7_follows_9 ⟨Nat.zero_le _, Nat.zero_le _⟩ (fun locs hS => ?_)
    refine lv_if_eq (pc := 12) (tgt := 40) hx hb dX7_follows_12 (by decide) (fun c_5 => ?_) (fun c_5 => ?_)
    · have hq := pv_pos c_5 hq
      exact B_40 w0 H locs ls hP hS (lv_sub hl [0] rfl) hq
    · have hq := pv_neg c_5 hq
      refine lv_iload_n (pc := 15) hx hb dX7_follows_15 rfl (lv_at hl 3 rfl) ?_
      refine lv_i2l (pc := 16) (v := x3.toInt64) hx hb dX7_follows_16 rfl ?_
      refine lv_iconst (pc := 17) (v := 0) hx hb dX7_follows_17 (by decide) ?_
      refine lv_bipush (pc := 18) (v := 31) hx hb dX7_follows_18 (by decide) ?_
      refine pv_sRO (pc := 20) (rest := []) (st1 := [.int (m_X7_in x3.toInt64 0 31)]) (ws := pv_wM E a0 a1 a2 a3 a4 a5 a6 a7 a8 a9 a10 w0) [.long x3.toInt64, .int 0, .int 31] ⟨hx, hb, hml, hown, hts⟩ hE hA hS hP (hD w0) (c_X7_in l E x3.toInt64 0 31) (va_cwS 3 hts gX7_follows_X7_in rfl rfl rfl (by decide +kernel) ⟨(Nat.le_of_ble_eq_true rfl), (Nat.le_of_ble_eq_true rfl)⟩) [] rfl rfl rfl hl.1 rfl rfl (Nat.le_of_ble_eq_true rfl) dX7_follows_20 ⟨Nat.zero_le _, Nat.zero_le _⟩ (fun locs hS => ?_)
      refine lv_if_eq (pc := 23) (tgt := 40) hx hb dX7_follows_23 (by decide) (fun c_6 => ?_) (fun c_6 => ?_)
      · have hq := pv_pos c_6 hq
        exact B_40 w0 H locs ls hP hS (lv_sub hl [0] rfl) hq
      · have hq := pv_neg c_6 hq
        refine lv_aload_n (pc := 26) hx hb dX7_follows_26 rfl (lv_at hl 0 rfl) ?_
        refine lv_iload_n (pc := 27) hx hb dX7_follows_27 rfl (lv_at hl 1 rfl) ?_
        refine lv_aload_n (pc := 28) hx hb dX7_follows_28 rfl (lv_at hl 0 rfl) ?_
        refine lv_iload_n (pc := 29) hx hb dX7_follows_29 rfl (lv_at hl 2 rfl) ?_
        obtain ⟨u_7, hu_7, hq⟩ := pv_bind hq
        refine pv_vROf (pc := 30) (rest := [.int x1, .ref a0]) (st1 := [.int u_7, .int x1, .ref a0]) (ws := pv_wM E a0 a1 a2 a3 a4 a5 a6 a7 a8 a9 a10 w0) [.int x2] ⟨hx, hb, hml, hown, hts⟩ hE hA hS hP (hD w0) (c_X7_handOf l E a0 a1 a2 a3 a4 a5 a6 a7 a8 a9 a10 x2 w0 u_7 hu_7) (cwV 1 hts gX7_follows_X7_handOf rfl rfl rfl (by decide +kernel) ⟨(Nat.le_of_ble_eq_true rfl), (Nat.le_of_ble_eq_true rfl)⟩) (va_recv hK hP (ci := 5) (q0 := 0) rfl rfl) rfl hl.1 rfl rfl (Nat.le_of_ble_eq_true rfl) dX7_follows_30 ⟨Nat.zero_le _, Nat.zero_le _⟩ (fun locs hS => ?_)
        refine lv_iload_n (pc := 33) hx hb dX7_follows_33 rfl (lv_at hl 3 rfl) ?_
        obtain ⟨u_8, hu_8, hq⟩ := pv_bind hq
        refine pv_vROf (pc := 34) (rest := []) (st1 := [.int u_8]) (ws := pv_wM E a0 a1 a2 a3 a4 a5 a6 a7 a8 a9 a10 w0) [.int x1, .int u_7, .int x3] ⟨hx, hb, hml, hown, hts⟩ hE hA hS hP (hD w0) (c_X7_followedBy l E a0 a1 a2 a3 a4 a5 a6 a7 a8 a9 a10 x1 u_7 x3 w0 u_8 hu_8) (cwV 3 hts gX7_follows_X7_followedBy rfl rfl rfl (by decide +kernel) ⟨(Nat.le_of_ble_eq_true rfl), (Nat.le_of_ble_eq_true rfl)⟩) (va_recv hK hP (ci := 5) (q0 := 0) rfl rfl) rfl hl.1 rfl rfl (Nat.le_of_ble_eq_true rfl) dX7_follows_34 ⟨Nat.zero_le _, Nat.zero_le _⟩ (fun locs hS => ?_)
        refine lv_goto (pc := 37) (tgt := 46) hx hb dX7_follows_37 (by decide) ?_
        exact pv_riRW (w := fun w : pv_MT => pv_wM E a0 a1 a2 a3 a4 a5 a6 a7 a8 a9 a10 w) hx hb hr hlk hAe hS hP (Option.some.inj hq) dX7_follows_46
