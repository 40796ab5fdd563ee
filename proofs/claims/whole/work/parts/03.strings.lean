/-! STRING CONSTANTS: length() and charAt(k) of the i-th one -/
def m_J0_length_8abf5 (x0 : Nat) : Option Int32 := if x0 < 10 then some (nI (pv_len.getD x0 0)) else none
def m_J0_charAt_5068e (x0 : Nat) (x1 : Int32) : Option Int32 := if x0 < 10 then pv_gd x1 (pv_len.getD x0 0) (some (((((pv_byt.getD x0 []).getD x1.toNatClampNeg 0) &&& 255).toUInt32 % 65536).toInt32)) else none
theorem pv_lt_J0_length_8abf5 {x0 : Nat} {u : Int32} (h : m_J0_length_8abf5 x0 = some u) : x0 < 10 := by
  unfold m_J0_length_8abf5 at h
  by_cases hc : x0 < 10
  · exact hc
  · rw [if_neg hc] at h; cases h
theorem pv_lt_J0_charAt_5068e {x0 : Nat} {x1 u : Int32} (h : m_J0_charAt_5068e x0 x1 = some u) : x0 < 10 := by
  unfold m_J0_charAt_5068e at h
  by_cases hc : x0 < 10
  · exact hc
  · rw [if_neg hc] at h; cases h
theorem pv_len_lt (i : Nat) : pv_len.getD i 0 < 9 := by
  match i with
  | 0 | 1 | 2 | 3 | 4 | 5 | 6 | 7 | 8 | 9 => decide
  | k + 10 => simp [pv_len]
abbrev r_J0_coder_7d493 : Room := { frames := 0, cells := 0, slots := 0, locals := 0 }
abbrev r_J0_isLatin1_aae02 : Room := { frames := 0, cells := 0, slots := 0, locals := 0 }
abbrev r_J0_length_8abf5 : Room := { frames := 1, cells := 0, slots := 0, locals := 20 }
abbrev r_J3_checkIndex_8e157 : Room := { frames := 0, cells := 0, slots := 0, locals := 0 }
abbrev r_J0_checkIndex_df160 : Room := { frames := 1, cells := 0, slots := 0, locals := 22 }
abbrev r_J1_charAt_3b067 : Room := { frames := 2, cells := 0, slots := 0, locals := 43 }
abbrev r_J0_charAt_5068e : Room := { frames := 3, cells := 0, slots := 0, locals := 64 }
theorem c_J0_coder_7d493 (l : Launch) (E : pv_E) (i : Nat) (hi : i < 10) : pv_RO l E yJ0_coder_7d493 wsJ0_coder_7d493 r_J0_coder_7d493 ([] : va_W) [.ref (pv_k E i)] (some (.int 0)) := by
  intro sz
  refine pv_mk (by decide) rfl (Nat.le_of_ble_eq_true rfl) ?_
  intro p e s m args below meth c A hx hb hr hml hown hts hlk hAe hP hD hA hE hS ls hl
  have hown : s.vm.findClass RJ0 = some m.cls := hown
  have f1 : (Cond.fieldLink RJ0 38 "java/lang/String" "COMPACT_STRINGS" "Z").before args s = true := hts _ (by decide +kernel)
  have f2 : (Cond.fieldLink RJ0 15 "java/lang/String" "coder" "B").before args s = true := hts _ (by decide +kernel)
  have hl : lv_has ls 1 [(0, .ref (pv_k E i))] := hl
  have hV := hE.2.2.2.2.2.2.1.1 i hi
  refine va_gets hx hb hE.2.2.2.2.2.2.2.2.1 hS hown f1 (fun _ h9 => h9) dJ0_coder_7d493_0 ?_
  refine lv_if_eq (tgt := 13) hx hb dJ0_coder_7d493_3 (by decide) (fun c1 => absurd c1 (by decide)) (fun _ => ?_)
  refine lv_aload_n hx hb dJ0_coder_7d493_6 rfl (lv_at hl 0 rfl) ?_
  refine vk_getf hx hb hV.2.1 hS hown f2 (fun _ h9 => h9) dJ0_coder_7d493_7 ?_
  refine lv_goto (tgt := 14) hx hb dJ0_coder_7d493_10 (by decide) ?_
  exact pv_rzRO hx hb hr hlk hS rfl rfl dJ0_coder_7d493_14
theorem c_J0_isLatin1_aae02 (l : Launch) (E : pv_E) (i : Nat) (hi : i < 10) : pv_RO l E yJ0_isLatin1_aae02 wsJ0_isLatin1_aae02 r_J0_isLatin1_aae02 ([] : va_W) [.ref (pv_k E i)] (some (.int 1)) := by
  intro sz
  refine pv_mk (by decide) rfl (Nat.le_of_ble_eq_true rfl) ?_
  intro p e s m args below meth c A hx hb hr hml hown hts hlk hAe hP hD hA hE hS ls hl
  have hown : s.vm.findClass RJ0 = some m.cls := hown
  have f1 : (Cond.fieldLink RJ0 38 "java/lang/String" "COMPACT_STRINGS" "Z").before args s = true := hts _ (by decide +kernel)
  have f2 : (Cond.fieldLink RJ0 15 "java/lang/String" "coder" "B").before args s = true := hts _ (by decide +kernel)
  have hl : lv_has ls 1 [(0, .ref (pv_k E i))] := hl
  have hV := hE.2.2.2.2.2.2.1.1 i hi
  refine va_gets hx hb hE.2.2.2.2.2.2.2.2.1 hS hown f1 (fun _ h9 => h9) dJ0_isLatin1_aae02_0 ?_
  refine lv_if_eq (tgt := 17) hx hb dJ0_isLatin1_aae02_3 (by decide) (fun c1 => absurd c1 (by decide)) (fun _ => ?_)
  refine lv_aload_n hx hb dJ0_isLatin1_aae02_6 rfl (lv_at hl 0 rfl) ?_
  refine vk_getf hx hb hV.2.1 hS hown f2 (fun _ h9 => h9) dJ0_isLatin1_aae02_7 ?_
  refine lv_if_ne (tgt := 17) hx hb dJ0_isLatin1_aae02_10 (by decide) (fun c1 => absurd rfl c1) (fun _ => ?_)
  refine lv_iconst (v := 1) hx hb dJ0_isLatin1_aae02_13 (by decide) ?_
  refine lv_goto (tgt := 18) hx hb dJ0_isLatin1_aae02_14 (by decide) ?_
  exact pv_rzRO hx hb hr hlk hS rfl rfl dJ0_isLatin1_aae02_18
theorem c_J0_length_8abf5 (l : Launch) (E : pv_E) (x0 : Nat) (F : Int32) (hq : m_J0_length_8abf5 x0 = some F) : pv_RO l E yJ0_length_8abf5 wsJ0_length_8abf5 r_J0_length_8abf5 ([] : va_W) [.ref (pv_k E x0)] (some (.int F)) := by
  have hi := pv_lt_J0_length_8abf5 hq
  have hF : nI (pv_len.getD x0 0) = F := by
    unfold m_J0_length_8abf5 at hq
    rw [if_pos hi] at hq
    exact Option.some.inj hq
  intro sz
  refine pv_mk (by decide) rfl (Nat.le_of_ble_eq_true rfl) ?_
  intro p e s m args below meth c A hx hb hr hml hown hts hlk hAe hP hD hA hE hS ls hl
  have hown : s.vm.findClass RJ0 = some m.cls := hown
  have f1 : (Cond.fieldLink RJ0 9 "java/lang/String" "value" "[B").before args s = true := hts _ (by decide +kernel)
  have hl : lv_has ls 1 [(0, .ref (pv_k E x0))] := hl
  have hV := hE.2.2.2.2.2.2.1.1 x0 hi
  refine lv_aload_n hx hb dJ0_length_8abf5_0 rfl (lv_at hl 0 rfl) ?_
  refine vk_getf hx hb hV.2.2.1 hS hown f1 (fun _ h9 => h9) dJ0_length_8abf5_1 ?_
  refine va_tlen (v := nI (pv_len.getD x0 0)) hx hb hV.2.2.2 hS rfl dJ0_length_8abf5_4 ?_
  refine lv_aload_n hx hb dJ0_length_8abf5_5 rfl (lv_at hl 0 rfl) ?_
  refine pv_vRO (pc := 6) (rest := [.int (nI (pv_len.getD x0 0))]) (st1 := [.int 0, .int (nI (pv_len.getD x0 0))]) (ws := ([] : va_W)) [] ⟨hx, hb, hml, hown, hts⟩ hE hA hS hP hD (c_J0_coder_7d493 l E x0 hi) (cwV 0 hts gJ0_length_8abf5_J0_coder_7d493 rfl rfl rfl (by decide +kernel) ⟨(Nat.le_of_ble_eq_true rfl), (Nat.le_of_ble_eq_true rfl)⟩) (vk_recv hE.2.2.2.2.2.2.1 hi hS) [] rfl rfl rfl hl.1 rfl rfl (Nat.le_of_ble_eq_true rfl) dJ0_length_8abf5_6 ⟨Nat.zero_le _, Nat.zero_le _⟩ (fun locs hS => ?_)
  refine lv_ishr (pc := 9) hx hb dJ0_length_8abf5_9 ?_
  refine pv_riRO hx hb hr hlk hS ?_ dJ0_length_8abf5_10
  have h9 := pv_len_lt x0
  rw [pk_shrN (n := pv_len.getD x0 0) (by omega) (0 &&& 31) 0 (by decide)]
  rw [← hF]
  simp
theorem c_J3_checkIndex_8e157 (l : Launch) (E : pv_E) (x0 x1 : Int32) (v : Value) (hv : v = .null ∨ ∃ t, v = .ref t) (h1 : ¬ x0 < 0) (h2 : x0 < x1) : pv_RO l E yJ3_checkIndex_8e157 wsJ3_checkIndex_8e157 r_J3_checkIndex_8e157 ([] : va_W) [.int x0, .int x1, v] (some (.int x0)) := by
  intro sz
  refine pv_mk (by decide) rfl (by rcases hv with rfl | ⟨t, rfl⟩ <;> exact Nat.le_of_ble_eq_true rfl) ?_
  intro p e s m args below meth c A hx hb hr hml hown hts hlk hAe hP hD hA hE hS ls hl
  have hl : lv_has ls 3 [(0, .int x0), (1, .int x1)] := by
    rcases hv with rfl | ⟨t, rfl⟩
    · exact lv_sub hl [0, 1] rfl
    · exact lv_sub hl [0, 1] rfl
  refine lv_iload_n hx hb dJ3_checkIndex_8e157_0 rfl (lv_at hl 0 rfl) ?_
  refine lv_if_lt (tgt := 9) hx hb dJ3_checkIndex_8e157_1 (by decide) (fun c1 => absurd c1 h1) (fun _ => ?_)
  refine lv_iload_n hx hb dJ3_checkIndex_8e157_4 rfl (lv_at hl 0 rfl) ?_
  refine lv_iload_n hx hb dJ3_checkIndex_8e157_5 rfl (lv_at hl 1 rfl) ?_
  refine lv_icmp_lt (tgt := 16) hx hb dJ3_checkIndex_8e157_6 (by decide) (fun _ => ?_) (fun c1 => absurd h2 c1)
  refine lv_iload_n hx hb dJ3_checkIndex_8e157_16 rfl (lv_at hl 0 rfl) ?_
  exact pv_riRO hx hb hr hlk hS rfl dJ3_checkIndex_8e157_17
theorem c_J0_checkIndex_df160 (l : Launch) (E : pv_E) (x0 x1 : Int32) (h1 : ¬ x0 < 0) (h2 : x0 < x1) : pv_RO l E yJ0_checkIndex_df160 wsJ0_checkIndex_df160 r_J0_checkIndex_df160 ([] : va_W) [.int x0, .int x1] none := by
  intro sz
  refine pv_mk (by decide) rfl (Nat.le_of_ble_eq_true rfl) ?_
  intro p e s m args below meth c A hx hb hr hml hown hts hlk hAe hP hD hA hE hS ls hl
  have hown : s.vm.findClass RJ0 = some m.cls := hown
  have f1 : (Cond.fieldLink RJ0 1053 "jdk/internal/util/Preconditions" "SIOOBE_FORMATTER" "Ljava/util/function/BiFunction;").before args s = true := hts _ (by decide +kernel)
  have hl : lv_has ls 2 [(0, .int x0), (1, .int x1)] := hl
  obtain ⟨v, hv, hZ⟩ : ∃ v : Value, (v = .null ∨ ∃ t, v = .ref t) ∧ va_Z "jdk/internal/util/Preconditions" "SIOOBE_FORMATTER" "Ljava/util/function/BiFunction;" v A s s.heap := by
    rcases hE.2.2.2.2.2.2.2.2.2 with h | ⟨t, h⟩
    · exact ⟨_, Or.inl rfl, h⟩
    · exact ⟨_, Or.inr ⟨t, rfl⟩, h⟩
  refine lv_iload_n hx hb dJ0_checkIndex_df160_0 rfl (lv_at hl 0 rfl) ?_
  refine lv_iload_n hx hb dJ0_checkIndex_df160_1 rfl (lv_at hl 1 rfl) ?_
  refine va_gets hx hb hZ hS hown f1 (fun _ h9 => h9) dJ0_checkIndex_df160_2 ?_
  refine pv_sRO (pc := 5) (rest := []) (st1 := [.int x0]) (ws := ([] : va_W)) [.int x0, .int x1, v] ⟨hx, hb, hml, hown, hts⟩ hE hA hS hP hD (c_J3_checkIndex_8e157 l E x0 x1 v hv h1 h2) (va_cwS 3 hts gJ0_checkIndex_df160_J3_checkIndex_8e157 rfl rfl rfl (by decide +kernel) ⟨(Nat.le_of_ble_eq_true rfl), (Nat.le_of_ble_eq_true rfl)⟩) [] rfl rfl rfl hl.1 rfl rfl (Nat.le_of_ble_eq_true rfl) dJ0_checkIndex_df160_5 ⟨Nat.zero_le _, Nat.zero_le _⟩ (fun locs hS => ?_)
  refine lv_pop (pc := 8) hx hb dJ0_checkIndex_df160_8 rfl ?_
  exact pv_rvRO hx hb hr hlk hS dJ0_checkIndex_df160_9
theorem c_J1_charAt_3b067 (l : Launch) (E : pv_E) (i : Nat) (hi : i < 10) (x1 : Int32) (h : vp_in x1 (pv_len.getD i 0)) : pv_RO l E yJ1_charAt_3b067 wsJ1_charAt_3b067 r_J1_charAt_3b067 ([] : va_W) [.ref (pv_v E i), .int x1] (some (.int (((((pv_byt.getD i []).getD x1.toNatClampNeg 0) &&& 255).toUInt32 % 65536).toInt32))) := by
  intro sz
  refine pv_mk (by decide) rfl (Nat.le_of_ble_eq_true rfl) ?_
  intro p e s m args below meth c A hx hb hr hml hown hts hlk hAe hP hD hA hE hS ls hl
  have hown : s.vm.findClass RJ1 = some m.cls := hown
  have hl : lv_has ls 2 [(0, .ref (pv_v E i)), (1, .int x1)] := hl
  have hV := hE.2.2.2.2.2.2.1.1 i hi
  have h9 := pv_len_lt i
  have g1 : ¬ x1 < 0 := fun z => h (Or.inl z)
  have g2 : x1 < nI (pv_len.getD i 0) := by
    obtain ⟨j, hj, rfl⟩ := vp_in_of h (by omega)
    exact nI_lt hj (by omega)
  refine lv_iload_n hx hb dJ1_charAt_3b067_0 rfl (lv_at hl 1 rfl) ?_
  refine lv_aload_n hx hb dJ1_charAt_3b067_1 rfl (lv_at hl 0 rfl) ?_
  refine va_tlen (v := nI (pv_len.getD i 0)) hx hb hV.2.2.2 hS rfl dJ1_charAt_3b067_2 ?_
  refine pv_sRO (pc := 3) (rest := []) (st1 := []) (ws := ([] : va_W)) [.int x1, .int (nI (pv_len.getD i 0))] ⟨hx, hb, hml, hown, hts⟩ hE hA hS hP hD (c_J0_checkIndex_df160 l E x1 (nI (pv_len.getD i 0)) g1 g2) (va_cwS 2 hts gJ1_charAt_3b067_J0_checkIndex_df160 rfl rfl rfl (by decide +kernel) ⟨(Nat.le_of_ble_eq_true rfl), (Nat.le_of_ble_eq_true rfl)⟩) [] rfl rfl rfl hl.1 rfl rfl (Nat.le_of_ble_eq_true rfl) dJ1_charAt_3b067_3 ⟨Nat.zero_le _, Nat.zero_le _⟩ (fun locs hS => ?_)
  refine lv_aload_n (pc := 6) hx hb dJ1_charAt_3b067_6 rfl (lv_at hl 0 rfl) ?_
  refine lv_iload_n hx hb dJ1_charAt_3b067_7 rfl (lv_at hl 1 rfl) ?_
  refine va_tb hx hb hV.2.2.2 hS h rfl dJ1_charAt_3b067_8 ?_
  refine lv_sipush (pc := 9) (v := 255) hx hb dJ1_charAt_3b067_9 (by decide) ?_
  refine lv_iand hx hb dJ1_charAt_3b067_12 ?_
  refine lv_i2c (v := ((((pv_byt.getD i []).getD x1.toNatClampNeg 0) &&& 255).toUInt32 % 65536).toInt32) hx hb dJ1_charAt_3b067_13 rfl ?_
  exact pv_rzRO hx hb hr hlk hS rfl (pk_nc _) dJ1_charAt_3b067_14
theorem c_J0_charAt_5068e (l : Launch) (E : pv_E) (x0 : Nat) (x1 : Int32) (F : Int32) (hq : m_J0_charAt_5068e x0 x1 = some F) : pv_RO l E yJ0_charAt_5068e wsJ0_charAt_5068e r_J0_charAt_5068e ([] : va_W) [.ref (pv_k E x0), .int x1] (some (.int F)) := by
  have hi := pv_lt_J0_charAt_5068e hq
  unfold m_J0_charAt_5068e at hq
  rw [if_pos hi] at hq
  obtain ⟨hin, hq⟩ := pv_gd_some hq
  have hF := Option.some.inj hq
  intro sz
  refine pv_mk (by decide) rfl (Nat.le_of_ble_eq_true rfl) ?_
  intro p e s m args below meth c A hx hb hr hml hown hts hlk hAe hP hD hA hE hS ls hl
  have hown : s.vm.findClass RJ0 = some m.cls := hown
  have f1 : (Cond.fieldLink RJ0 9 "java/lang/String" "value" "[B").before args s = true := hts _ (by decide +kernel)
  have hl : lv_has ls 2 [(0, .ref (pv_k E x0)), (1, .int x1)] := hl
  have hV := hE.2.2.2.2.2.2.1.1 x0 hi
  refine lv_aload_n hx hb dJ0_charAt_5068e_0 rfl (lv_at hl 0 rfl) ?_
  refine pv_vRO (pc := 1) (rest := []) (st1 := [.int 1]) (ws := ([] : va_W)) [] ⟨hx, hb, hml, hown, hts⟩ hE hA hS hP hD (c_J0_isLatin1_aae02 l E x0 hi) (cwV 0 hts gJ0_charAt_5068e_J0_isLatin1_aae02 rfl rfl rfl (by decide +kernel) ⟨(Nat.le_of_ble_eq_true rfl), (Nat.le_of_ble_eq_true rfl)⟩) (vk_recv hE.2.2.2.2.2.2.1 hi hS) [] rfl rfl rfl hl.1 rfl rfl (Nat.le_of_ble_eq_true rfl) dJ0_charAt_5068e_1 ⟨Nat.zero_le _, Nat.zero_le _⟩ (fun locs hS => ?_)
  refine lv_if_eq (pc := 4) (tgt := 16) hx hb dJ0_charAt_5068e_4 (by decide) (fun c1 => absurd c1 (by decide)) (fun _ => ?_)
  refine lv_aload_n hx hb dJ0_charAt_5068e_7 rfl (lv_at hl 0 rfl) ?_
  refine vk_getf hx hb hV.2.2.1 hS hown f1 (fun _ h9 => h9) dJ0_charAt_5068e_8 ?_
  refine lv_iload_n hx hb dJ0_charAt_5068e_11 rfl (lv_at hl 1 rfl) ?_
  refine pv_sRO (pc := 12) (rest := []) (st1 := [.int (((((pv_byt.getD x0 []).getD x1.toNatClampNeg 0) &&& 255).toUInt32 % 65536).toInt32)]) (ws := ([] : va_W)) [.ref (pv_v E x0), .int x1] ⟨hx, hb, hml, hown, hts⟩ hE hA hS hP hD (c_J1_charAt_3b067 l E x0 hi x1 hin) (va_cwS 2 hts gJ0_charAt_5068e_J1_charAt_3b067 rfl rfl rfl (by decide +kernel) ⟨(Nat.le_of_ble_eq_true rfl), (Nat.le_of_ble_eq_true rfl)⟩) [] rfl rfl rfl hl.1 rfl rfl (Nat.le_of_ble_eq_true rfl) dJ0_charAt_5068e_12 ⟨Nat.zero_le _, Nat.zero_le _⟩ (fun locs hS => ?_)
  exact pv_rzRO (pc := 15) hx hb hr hlk hS hF (pk_nc _) dJ0_charAt_5068e_15
