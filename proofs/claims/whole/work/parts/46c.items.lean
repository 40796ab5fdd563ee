/-! ITEMS OF THE TEXT -/
/-- both sides stand before the same token -/
def St (P : pv_PT) (m : pv_MT) (L : Nat) (A : pv_TT) (f : Nat → Int32) (p : pv_PT) (M : pv_MT) (b e : Nat) : Prop := ∃ ct rt cv rv, p = pQ P ct (nI b) (nI e) cv ∧ M = mQ m f rt (nI b) (nI e) rv 0 ∧ b ≤ e ∧ e ≤ L ∧ (¬ ct = 0 → b < e) ∧ TK ct rt cv rv p ∧ RT A f ∧ IT A 9999
/-- a fault at b -/
def Ft (P : pv_PT) (m : pv_MT) (p : pv_PT) (M : pv_MT) : Prop := ∃ ct cv rt rv b e f, b ≤ 120 ∧ p = pQ P ct (nI b) (nI e) cv ∧ M = mQ m f rt (nI b) (nI e) rv 1
/-- what an item comes to -/
def It (P : pv_PT) (m : pv_MT) (L : Nat) (b0 : Nat) (a : Option (Int32 × pv_PT × pv_TT)) (c : Option pv_MT) : Prop := ∃ r p A M, a = some (r, p, A) ∧ c = some M ∧ ((r = 0 ∧ Ft P m p M) ∨ (r = 1 ∧ ∃ f b e, b0 < b ∧ St P m L A f p M b e))
/-- tokens that tell numbers -/
theorem TK_num {ct rt cv rv : Int32} {p : pv_PT} (h : TK ct rt cv rv p) : (ct = 2 ∧ rt = 20 ∧ VR cv rv) ∨ (¬ ct = 2 ∧ ¬ rt = 20) := by
  obtain ⟨h1, -⟩ := h
  rcases h1 with ⟨rfl, rfl⟩ | ⟨rfl, rfl⟩ | ⟨rfl, rfl, h⟩ | ⟨rfl, rfl⟩ | ⟨rfl, h⟩
  · exact Or.inr ⟨by decide, by decide⟩
  · exact Or.inr ⟨by decide, by decide⟩
  · exact Or.inl ⟨rfl, rfl, h⟩
  · exact Or.inr ⟨by decide, by decide⟩
  · refine Or.inr ⟨by decide, ?_⟩
    rcases h with rfl | ⟨w, hw, rfl⟩
    · decide
    · exact fun q => (big_ne hw).2.2.1 q.symm
theorem VR_win {cv rv : Int32} (h : VR cv rv) {a b : Nat} (ha : a ≤ 999) (hb : b ≤ 999) : (m_X6_isWithin cv (nI a) (nI b) = 0 ∧ m_X7_in rv.toInt64 (nI a) (nI b) = 0) ∨ ∃ k, a ≤ k ∧ k ≤ b ∧ cv = nI k ∧ rv = nI k ∧ m_X6_isWithin cv (nI a) (nI b) = 1 ∧ m_X7_in rv.toInt64 (nI a) (nI b) = 1 := by
  rw [in_eq]
  rcases h with ⟨v, hv, rfl, rfl⟩ | ⟨rfl, v, hv1, hv2, rfl⟩
  · rcases win (nI v) (show a < 2 ^ 31 by omega) (show b < 2 ^ 31 by omega) with g | ⟨k, h1, h2, e, g⟩
    · exact Or.inl ⟨g, g⟩
    · exact Or.inr ⟨k, h1, h2, e, e, g, g⟩
  · left
    have z : ∀ u : Nat, b < u → u < 2 ^ 31 → m_X6_isWithin (nI u) (nI a) (nI b) = 0 := by
      intro u hu hu2
      unfold m_X6_isWithin
      by_cases c : nI u < nI a
      · rw [if_pos c]
      · rw [if_neg c, if_pos (nI_lt hu hu2)]
    exact ⟨z 1000 (by omega) (by omega), z v (by omega) (by omega)⟩
theorem VR_state {cv rv : Int32} (h : VR cv rv) : (m_X6_isState cv = 0 ∧ m_X7_in rv.toInt64 0 1 = 0) ∨ ∃ k, k < 2 ∧ cv = nI k ∧ rv = nI k ∧ m_X6_isState cv = 1 ∧ m_X7_in rv.toInt64 0 1 = 1 := by
  rw [stt_eq]
  rcases VR_win h (a := 0) (b := 1) (by omega) (by omega) with g | ⟨k, -, h2, e1, e2, g1, g2⟩
  · exact Or.inl g
  · exact Or.inr ⟨k, by omega, e1, e2, g1, g2⟩
theorem VR_land {cv rv : Int32} (h : VR cv rv) : (m_X6_isProvince cv = 0 ∧ m_X7_in rv.toInt64 0 7 = 0) ∨ ∃ k, k < 8 ∧ cv = nI k ∧ rv = nI k ∧ m_X6_isProvince cv = 1 ∧ m_X7_in rv.toInt64 0 7 = 1 := by
  rw [prov_eq]
  rcases VR_win h (a := 0) (b := 7) (by omega) (by omega) with g | ⟨k, -, h2, e1, e2, g1, g2⟩
  · exact Or.inl g
  · exact Or.inr ⟨k, by omega, e1, e2, g1, g2⟩
theorem VR_mix {cv rv : Int32} (h : VR cv rv) : (m_X6_isMix cv = 0 ∧ m_X7_isMix rv = 0) ∨ ∃ k, k < 32 ∧ k % 2 = 1 ∧ cv = nI k ∧ rv = nI k ∧ m_X6_isMix cv = 1 ∧ m_X7_isMix rv = 1 ∧ m_X7_in rv.toInt64 1 31 = 1 := by
  rcases h with ⟨v, hv, rfl, rfl⟩ | ⟨rfl, v, hv1, hv2, rfl⟩
  · rcases mix_c (nI v) with g | ⟨k, k1, k2, e, g1, g2⟩
    · exact Or.inl g
    · refine Or.inr ⟨k, k1, k2, e, e, g1, g2, ?_⟩
      rw [e, in_eq]
      unfold m_X6_isWithin
      rw [if_neg (show ¬ nI k < 1 from nI_nlt (b := 1) (by omega) (by omega)), if_neg (show ¬ (31 : Int32) < nI k from nI_nlt (a := 31) (by omega) (by omega))]
  · left
    have z : ∀ u : Nat, 31 < u → u < 2 ^ 31 → m_X6_isMix (nI u) = 0 ∧ m_X7_isMix (nI u) = 0 := by
      intro u h1 h2
      rcases mix_c (nI u) with g | ⟨k, k1, k2, e, g1, g2⟩
      · exact g
      · have := nI_inj32 (by omega) (by omega) e
        omega
    exact ⟨(z 1000 (by omega) (by omega)).1, (z v (by omega) (by omega)).2⟩
/-! numbers as the reference takes them -/
theorem nb_bad (x1 x2 : Int32) (m : pv_MT) (f : Nat → Int32) (tk beg ps val : Int32) (h : ¬ tk = 20 ∨ m_X7_in val.toInt64 x1 x2 = 0) : m_X7_number x1 x2 (mQ m f tk beg ps val 0) = some (val, mQ m f tk beg ps val 1) := by
  unfold m_X7_number m_X7_number_32
  show (if (0 : Int32) = 0 then (if tk = 20 then (if m_X7_in val.toInt64 x1 x2 = 0 then m_X7_number_37 val 1 (mQ m f tk beg ps val 0) else m_X7_number_37 val 0 (mQ m f tk beg ps val 0)) else m_X7_number_37 val 1 (mQ m f tk beg ps val 0)) else m_X7_number_37 val 1 (mQ m f tk beg ps val 0)) = _
  have e : m_X7_number_37 val 1 (mQ m f tk beg ps val 0) = some (val, mQ m f tk beg ps val 1) := by
    unfold m_X7_number_37
    show pv_gz 1 (if (1 : Int32) = 0 then _ else _) = _
    rw [if_neg (show ¬ (1 : Int32) = 0 by decide)]
    rfl
  rw [if_pos rfl, e]
  by_cases c : tk = 20
  · rcases h with h | h
    · exact absurd c h
    · rw [if_pos c, if_pos h]
  · rw [if_neg c]
theorem nb_bad1 (x1 x2 : Int32) (m : pv_MT) (f : Nat → Int32) (tk beg ps val : Int32) : m_X7_number x1 x2 (mQ m f tk beg ps val 1) = some (val, mQ m f tk beg ps val 1) := by
  unfold m_X7_number m_X7_number_32
  show (if (1 : Int32) = 0 then _ else m_X7_number_37 val 1 (mQ m f tk beg ps val 1)) = _
  rw [if_neg (show ¬ (1 : Int32) = 0 by decide)]
  unfold m_X7_number_37
  show pv_gz 1 (if (1 : Int32) = 0 then _ else _) = _
  rw [if_neg (show ¬ (1 : Int32) = 0 by decide)]
  rfl
theorem nb_ok (x1 x2 : Int32) (m : pv_MT) (f : Nat → Int32) (beg ps val : Int32) {M : pv_MT} (h : ¬ m_X7_in val.toInt64 x1 x2 = 0) (hr : m_X7_reads (mQ m f 20 beg ps val 0) = some M) : m_X7_number x1 x2 (mQ m f 20 beg ps val 0) = some (val, M) := by
  unfold m_X7_number
  show (if (0 : Int32) = 0 then (if (20 : Int32) = 20 then (if m_X7_in val.toInt64 x1 x2 = 0 then _ else m_X7_number_37 val 0 (mQ m f 20 beg ps val 0)) else _) else _) = _
  rw [if_pos rfl, if_pos rfl, if_neg h]
  unfold m_X7_number_37
  show pv_gz 0 (if (0 : Int32) = 0 then (Option.bind (m_X7_reads (mQ m f 20 beg ps val 0)) fun u => some (val, u)) else _) = _
  rw [if_pos rfl, hr]
  rfl
theorem ps_yes (x1 : Int32) (m : pv_MT) (f : Nat → Int32) (beg ps val : Int32) {M : pv_MT} (hr : m_X7_reads (mQ m f x1 beg ps val 0) = some M) : m_X7_passes x1 (mQ m f x1 beg ps val 0) = some (1, M) := by
  unfold m_X7_passes
  show (if (0 : Int32) = 0 then (if x1 = x1 then (Option.bind (m_X7_reads (mQ m f x1 beg ps val 0)) fun u => some (1, u)) else _) else _) = _
  rw [if_pos rfl, if_pos rfl, hr]
  rfl
theorem ps_no (x1 : Int32) (m : pv_MT) (f : Nat → Int32) (tk beg ps val : Int32) (h : ¬ tk = x1) : m_X7_passes x1 (mQ m f tk beg ps val 0) = some (0, mQ m f tk beg ps val 0) := by
  unfold m_X7_passes
  show (if (0 : Int32) = 0 then (if tk = x1 then _ else some (0, mQ m f tk beg ps val 0)) else _) = _
  rw [if_pos rfl, if_neg h]
theorem ps_bad (x1 : Int32) (m : pv_MT) (f : Nat → Int32) (tk beg ps val : Int32) : m_X7_passes x1 (mQ m f tk beg ps val 1) = some (0, mQ m f tk beg ps val 1) := by
  unfold m_X7_passes
  show (if (1 : Int32) = 0 then _ else some (0, mQ m f tk beg ps val 1)) = _
  rw [if_neg (show ¬ (1 : Int32) = 0 by decide)]
