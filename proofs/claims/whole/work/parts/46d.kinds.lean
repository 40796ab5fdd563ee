/-! ENVOYS, MIXES, PROVINCES IN THE TEXT -/
theorem nI_ne1 {c : Nat} (h : c < 2 ^ 31) : ¬ nI c = -1 := fun q => nI_nle1 h (by rw [q]; decide)
theorem seat_ok {A : pv_TT} {N : Nat} (hN : N < 8) (eN : A.2.2.1 = nI N) (k : Int32) : m_X4_seat k A = some (nI N, (A.1, A.2.1, nI (N + 1), A.2.2.2.1, A.2.2.2.2.1, A.2.2.2.2.2.1, upd A.2.2.2.2.2.2.1 N k, upd A.2.2.2.2.2.2.2 N 0)) := by
  have q : A.2.2.1 < 8 := by rw [eN]; exact nI_lt (b := 8) hN (by omega)
  unfold m_X4_seat
  rw [if_pos q, eN, gd_nI hN (by omega), gd_nI hN (by omega), nI_clamp (by omega), nI_1, show nI (N + 1) - 1 = nI N from pk_sub (a := N + 1) (b := 1) (by omega)]
theorem comes_ok (x1 : Int32) (m : pv_MT) (f : Nat → Int32) (tk beg ps val bad : Int32) {N : Nat} (hN : N < 8) (e2 : f 2 = nI N) : m_X7_comesAs x1 (mQ m f tk beg ps val bad) = some (nI N, mQ m (upd (upd (upd f 2 (nI (N + 1))) (15 + 2 * N) x1) (16 + 2 * N) 0) tk beg ps val bad) := by
  unfold m_X7_comesAs
  show pv_gd (15 + 2 * f 2) 31 (pv_gd (15 + 2 * f 2 + 1) 31 (some (f 2, mQ m (upd (upd (upd f 2 (f 2 + 1)) (15 + 2 * f 2).toNatClampNeg x1) (15 + 2 * f 2 + 1).toNatClampNeg 0) tk beg ps val bad))) = _
  have e15 : (15 : Int32) + 2 * nI N = nI (15 + 2 * N) := by rw [show (15 : Int32) = nI 15 from rfl, show (2 : Int32) = nI 2 from rfl, pk_mul, nI_add]
  rw [e2, e15, nI_1, nI_1, gd_nI (by omega) (by omega), gd_nI (by omega) (by omega), nI_clamp (by omega), nI_clamp (by omega), show 15 + 2 * N + 1 = 16 + 2 * N by omega]
def snT1 (A : pv_TT) (v : Nat) (k : Int32) : pv_TT := (A.1, A.2.1, A.2.2.1, A.2.2.2.1, A.2.2.2.2.1, upd A.2.2.2.2.2.1 v k, A.2.2.2.2.2.2)
theorem te_x {w N : Nat} {p p1 : pv_PT} {A A1 : pv_TT} (s : m_X4_seat (nI w) A = some (nI N, A1)) (hN : N < 8) (x1 : m_X5_step p = some p1) : m_X5_takesEnvoy (nI w) (p, A) = (Option.bind (m_X5_isWord 6 p1) fun u4 => if u4 = 0 then some (1, (p1, A1)) else Option.bind (m_X5_step p1) fun u6 => if u6.2.2.1 = 2 then (if m_X6_isState u6.2.2.2.2.2 = 0 then some (0, (u6, A1)) else pv_gd u6.2.2.2.2.2 2 (Option.bind (m_X5_step u6) fun u10 => some (1, (u10, snT1 A1 u6.2.2.2.2.2.toNatClampNeg (nI N))))) else some (0, (u6, A1))) := by
  unfold m_X5_takesEnvoy
  show (Option.bind (m_X4_seat (nI w) A) fun u1 => if u1.1 = -1 then some (0, (p, u1.2)) else Option.bind (m_X5_step p) fun u3 => Option.bind (m_X5_isWord 6 u3) fun u4 => if u4 = 0 then some (1, (u3, u1.2)) else Option.bind (m_X5_step u3) fun u6 => if u6.2.2.1 = 2 then (if m_X6_isState u6.2.2.2.2.2 = 0 then some (0, (u6, u1.2)) else pv_gd u6.2.2.2.2.2 2 (Option.bind (m_X5_step u6) fun u10 => some (1, (u10, snT1 u1.2 u6.2.2.2.2.2.toNatClampNeg u1.1)))) else some (0, (u6, u1.2))) = _
  rw [s, Option.bind_some, if_neg (nI_ne1 (show N < 2 ^ 31 by omega)), x1, Option.bind_some]
theorem ei_m {w N : Nat} {m M1 : pv_MT} {f : Nat → Int32} {beg ps val : Int32} (hN : N < 8) (e2 : f 2 = nI N) (hr : m_X7_reads (mQ m f (nI w) beg ps val 0) = some M1) : m_X7_envoyItem (mQ m f (nI w) beg ps val 0) = (Option.bind (m_X7_perhaps 6 0 1 (-1) M1) fun u5 => if u5.2.2.2.2.2.2.2.2.2.2.2.2.2.2.1 = 0 then (Option.bind (m_X7_comesAs (nI w) u5.2) fun u7 => if u5.1 < 0 then some u7.2 else pv_gd (3 + u5.1) 31 (some (upd u7.2.1 (3 + u5.1).toNatClampNeg u7.1, u7.2.2))) else some u5.2) := by
  have h8 : ¬ f 2 = 8 := by rw [e2]; exact fun q => absurd (nI_inj32 (b := 8) (by omega) (by omega) q) (by omega)
  unfold m_X7_envoyItem
  show (if f 2 = 8 then _ else m_X7_envoyItem_22 (nI w) 0 (mQ m f (nI w) beg ps val 0)) = _
  rw [if_neg h8]
  unfold m_X7_envoyItem_22
  show pv_gz 0 (if (0 : Int32) = 0 then (Option.bind (m_X7_reads (mQ m f (nI w) beg ps val 0)) fun u4 => Option.bind (m_X7_perhaps 6 0 1 (-1) u4) fun u5 => if u5.2.2.2.2.2.2.2.2.2.2.2.2.2.2.1 = 0 then (Option.bind (m_X7_comesAs (nI w) u5.2) fun u7 => if u5.1 < 0 then some u7.2 else pv_gd (3 + u5.1) 31 (some (upd u7.2.1 (3 + u5.1).toNatClampNeg u7.1, u7.2.2))) else some u5.2) else _) = _
  rw [if_pos rfl, hr, Option.bind_some]
  exact if_pos (Or.inl rfl)
theorem pe_no (m : pv_MT) (f : Nat → Int32) (tk beg ps val : Int32) (h : ¬ tk = 6) : m_X7_perhaps 6 0 1 (-1) (mQ m f tk beg ps val 0) = some (-1, mQ m f tk beg ps val 0) := by
  unfold m_X7_perhaps
  rw [ps_no 6 m f tk beg ps val h, Option.bind_some]
  exact if_pos rfl
theorem pe_yes {m M2 M3 : pv_MT} {f : Nat → Int32} {beg ps val v : Int32} (hr : m_X7_reads (mQ m f 6 beg ps val 0) = some M2) (hn : m_X7_number 0 1 M2 = some (v, M3)) : m_X7_perhaps 6 0 1 (-1) (mQ m f 6 beg ps val 0) = some (v, M3) := by
  unfold m_X7_perhaps
  rw [ps_yes 6 m f beg ps val hr, Option.bind_some]
  show (if (1 : Int32) = 0 then _ else Option.bind (m_X7_number 0 1 M2) fun u3 => some (u3.1, u3.2)) = _
  rw [if_neg (show ¬ (1 : Int32) = 0 by decide), hn]
  rfl
theorem envoyI {P : pv_PT} {m : pv_MT} {L : Nat} (hT : TP P m L) {A : pv_TT} {f : Nat → Int32} {b e w : Nat} {ct cv rv : Int32} (hbe : b < e) (he : e ≤ L) (hR : RT A f) (hI : IT A 9999) (hw : w < 6) : It P m L b (m_X5_takesEnvoy (nI w) (pQ P ct (nI b) (nI e) cv, A)) (m_X7_envoyItem (mQ m f (nI w) (nI b) (nI e) rv 0)) := by
  have hL : L ≤ 120 := hT.2.2.2
  obtain ⟨N, hN, eN, -⟩ := hI.2.2.1
  have e2 : f 2 = nI N := hR.2.2.1.trans eN
  by_cases h8 : N = 8
  · subst h8
    have s : m_X4_seat (nI w) A = some (-1, A) := by
      unfold m_X4_seat
      rw [if_neg (show ¬ A.2.2.1 < 8 by rw [eN]; decide)]
    have c : m_X5_takesEnvoy (nI w) (pQ P ct (nI b) (nI e) cv, A) = some (0, (pQ P ct (nI b) (nI e) cv, A)) := by
      unfold m_X5_takesEnvoy
      show (Option.bind (m_X4_seat (nI w) A) fun u1 => if u1.1 = -1 then some (0, (pQ P ct (nI b) (nI e) cv, u1.2)) else _) = _
      rw [s, Option.bind_some]
      exact if_pos rfl
    have d : m_X7_envoyItem (mQ m f (nI w) (nI b) (nI e) rv 0) = some (mQ m f (nI w) (nI b) (nI e) rv 1) := by
      unfold m_X7_envoyItem
      show (if f 2 = 8 then m_X7_envoyItem_22 (nI w) 1 (mQ m f (nI w) (nI b) (nI e) rv 0) else _) = _
      rw [if_pos (show f 2 = 8 from e2)]
      unfold m_X7_envoyItem_22
      show pv_gz 1 (if (1 : Int32) = 0 then _ else some (mQ m f (nI w) (nI b) (nI e) rv 1)) = _
      rw [if_neg (show ¬ (1 : Int32) = 0 by decide)]
      rfl
    exact ⟨0, _, A, _, c, d, Or.inl ⟨rfl, ct, cv, nI w, rv, b, e, f, by omega, rfl, rfl⟩⟩
  have hN8 : N < 8 := by omega
  obtain ⟨s1, s2⟩ := seat_RT hR hI eN hN8 hw
  have s := seat_ok hN8 eN (nI w)
  obtain ⟨ct1, rt1, cv1, rv1, b1, e1, i1, i2, i3, i4, x1, y1, k1⟩ := step_ok hT he f ct (nI b) cv (nI w) (nI b) rv 0
  rw [te_x s hN8 x1, ei_m hN8 e2 y1, k1.2 6 (by omega), Option.bind_some]
  by_cases c6 : rt1 = nI 6
  · subst c6
    rw [if_pos rfl, if_neg (show ¬ (1 : Int32) = 0 by decide)]
    obtain ⟨ct2, rt2, cv2, rv2, b2, e2', j1, j2, j3, j4, x2, y2, k2⟩ := step_ok hT i3 f ct1 (nI b1) cv1 (nI 6) (nI b1) rv1 0
    rw [x2, Option.bind_some]
    have bad : (¬ rt2 = 20 ∨ m_X7_in rv2.toInt64 0 1 = 0) → It P m L b (some (0, (pQ P ct2 (nI b2) (nI e2') cv2, (A.1, A.2.1, nI (N + 1), A.2.2.2.1, A.2.2.2.2.1, A.2.2.2.2.2.1, upd A.2.2.2.2.2.2.1 N (nI w), upd A.2.2.2.2.2.2.2 N 0)))) (Option.bind (m_X7_perhaps 6 0 1 (-1) (mQ m f (nI 6) (nI b1) (nI e1) rv1 0)) fun u5 => if u5.2.2.2.2.2.2.2.2.2.2.2.2.2.2.1 = 0 then (Option.bind (m_X7_comesAs (nI w) u5.2) fun u7 => if u5.1 < 0 then some u7.2 else pv_gd (3 + u5.1) 31 (some (upd u7.2.1 (3 + u5.1).toNatClampNeg u7.1, u7.2.2))) else some u5.2) := by
      intro hb
      have pe : m_X7_perhaps 6 0 1 (-1) (mQ m f (nI 6) (nI b1) (nI e1) rv1 0) = some (rv2, mQ m f rt2 (nI b2) (nI e2') rv2 1) := pe_yes y2 (nb_bad 0 1 m f rt2 (nI b2) (nI e2') rv2 hb)
      rw [pe, Option.bind_some]
      refine ⟨0, _, _, mQ m f rt2 (nI b2) (nI e2') rv2 1, rfl, ?_, Or.inl ⟨rfl, ct2, cv2, rt2, rv2, b2, e2', f, by omega, rfl, rfl⟩⟩
      show (if (1 : Int32) = 0 then _ else some (mQ m f rt2 (nI b2) (nI e2') rv2 1)) = _
      rw [if_neg (show ¬ (1 : Int32) = 0 by decide)]
    show It P m L b (if ct2 = 2 then (if m_X6_isState cv2 = 0 then some (0, (pQ P ct2 (nI b2) (nI e2') cv2, _)) else pv_gd cv2 2 (Option.bind (m_X5_step (pQ P ct2 (nI b2) (nI e2') cv2)) fun u10 => some (1, (u10, snT1 _ cv2.toNatClampNeg (nI N))))) else some (0, (pQ P ct2 (nI b2) (nI e2') cv2, _))) _
    rcases TK_num k2 with ⟨rfl, rfl, hv⟩ | ⟨n1, n2⟩
    · rcases VR_state hv with ⟨g1, g2⟩ | ⟨v, hv2, rfl, rfl, g1, g2⟩
      · rw [if_pos rfl, g1, if_pos rfl]
        exact bad (Or.inr g2)
      · obtain ⟨ct3, rt3, cv3, rv3, b3, e3, l1, l2, l3, l4, x3, y3, k3⟩ := step_ok hT j3 f 2 (nI b2) (nI v) 20 (nI b2) (nI v) 0
        have g3 : ¬ m_X7_in (nI v).toInt64 0 1 = 0 := by rw [g2]; decide
        have pe : m_X7_perhaps 6 0 1 (-1) (mQ m f (nI 6) (nI b1) (nI e1) rv1 0) = some (nI v, mQ m f rt3 (nI b3) (nI e3) rv3 0) := pe_yes y2 (nb_ok 0 1 m f (nI b2) (nI e2') (nI v) g3 y3)
        have hv31 : ¬ nI v < 0 := nI_pos (by omega)
        rw [if_pos rfl, g1, if_neg (show ¬ (1 : Int32) = 0 by decide), gd_nI hv2 (by omega), nI_clamp (by omega), x3, Option.bind_some, pe, Option.bind_some]
        refine ⟨1, _, _, mQ m (upd (upd (upd (upd f 2 (nI (N + 1))) (15 + 2 * N) (nI w)) (16 + 2 * N) 0) (3 + v) (nI N)) rt3 (nI b3) (nI e3) rv3 0, rfl, ?_, Or.inr ⟨rfl, _, b3, e3, by omega, ct3, rt3, cv3, rv3, rfl, rfl, l2, l3, l4, k3, RT_snt s1 hv2 (nI N), IT_snt s2 rfl (by omega) (Or.inr ⟨N, by omega, rfl⟩)⟩⟩
        show (if (0 : Int32) = 0 then (Option.bind (m_X7_comesAs (nI w) (mQ m f rt3 (nI b3) (nI e3) rv3 0)) fun u7 => if nI v < 0 then some u7.2 else pv_gd (3 + nI v) 31 (some (upd u7.2.1 (3 + nI v).toNatClampNeg u7.1, u7.2.2))) else _) = _
        rw [if_pos rfl, comes_ok (nI w) m f rt3 (nI b3) (nI e3) rv3 0 hN8 e2, Option.bind_some, if_neg hv31, show (3 : Int32) + nI v = nI (3 + v) from nI_add 3 v, gd_nI (by omega) (by omega), nI_clamp (by omega)]
        rfl
    · rw [if_neg n1]
      exact bad (Or.inl n2)
  · have c6' : ¬ rt1 = 6 := c6
    rw [if_neg c6, if_pos rfl, pe_no m f rt1 (nI b1) (nI e1) rv1 c6', Option.bind_some]
    refine ⟨1, _, _, mQ m (upd (upd (upd f 2 (nI (N + 1))) (15 + 2 * N) (nI w)) (16 + 2 * N) 0) rt1 (nI b1) (nI e1) rv1 0, rfl, ?_, Or.inr ⟨rfl, _, b1, e1, by omega, ct1, rt1, cv1, rv1, rfl, rfl, i2, i3, i4, k1, s1, s2⟩⟩
    show (if (0 : Int32) = 0 then (Option.bind (m_X7_comesAs (nI w) (mQ m f rt1 (nI b1) (nI e1) rv1 0)) fun u7 => if (-1 : Int32) < 0 then some u7.2 else _) else _) = _
    rw [if_pos rfl, comes_ok (nI w) m f rt1 (nI b1) (nI e1) rv1 0 hN8 e2, Option.bind_some, if_pos (show (-1 : Int32) < 0 by decide)]
/-! mix -/
theorem tm_x {p p1 : pv_PT} {A : pv_TT} (x1 : m_X5_step p = some p1) : m_X5_takesMix (p, A) = (if p1.2.2.1 = 2 then (if m_X6_isMix p1.2.2.2.2.2 = 0 then some (0, (p1, A)) else Option.bind (m_X5_step p1) fun u4 => some (1, (u4, (A.1, p1.2.2.2.2.2, A.2.2)))) else some (0, (p1, A))) := by
  unfold m_X5_takesMix
  show (Option.bind (m_X5_step p) fun u1 => if u1.2.2.1 = 2 then (if m_X6_isMix u1.2.2.2.2.2 = 0 then some (0, (u1, A)) else Option.bind (m_X5_step u1) fun u4 => some (1, (u4, (A.1, u1.2.2.2.2.2, A.2.2)))) else some (0, (u1, A))) = _
  rw [x1, Option.bind_some]
theorem mi_bad (m : pv_MT) (f : Nat → Int32) (tk beg ps val : Int32) (h : ¬ tk = 20 ∨ m_X7_isMix val = 0) : m_X7_mixItem (mQ m f tk beg ps val 0) = some (mQ m f tk beg ps val 1) := by
  have e : m_X7_mixItem_20 (mQ m f tk beg ps val 0) = some (mQ m f tk beg ps val 1) := by
    unfold m_X7_mixItem_20 m_X7_mixItem_25
    show pv_gz 1 (Option.bind (m_X7_number 1 31 (mQ m f tk beg ps val 1)) fun u3 => if u3.2.2.2.2.2.2.2.2.2.2.2.2.2.2.1 = 0 then _ else some u3.2) = _
    rw [nb_bad1, Option.bind_some]
    show pv_gz 1 (if (1 : Int32) = 0 then _ else some (mQ m f tk beg ps val 1)) = _
    rw [if_neg (show ¬ (1 : Int32) = 0 by decide)]
    rfl
  unfold m_X7_mixItem
  show (if tk = 20 then (if m_X7_isMix val = 0 then m_X7_mixItem_20 (mQ m f tk beg ps val 0) else _) else m_X7_mixItem_20 (mQ m f tk beg ps val 0)) = _
  rw [e]
  by_cases c : tk = 20
  · rcases h with h | h
    · exact absurd c h
    · rw [if_pos c, if_pos h]
  · rw [if_neg c]
theorem mi_ok {m : pv_MT} {f : Nat → Int32} {beg ps val rt b e rv : Int32} (h : ¬ m_X7_isMix val = 0) (h2 : ¬ m_X7_in val.toInt64 1 31 = 0) (hr : m_X7_reads (mQ m f 20 beg ps val 0) = some (mQ m f rt b e rv 0)) : m_X7_mixItem (mQ m f 20 beg ps val 0) = some (mQ m (upd f 1 val) rt b e rv 0) := by
  unfold m_X7_mixItem
  show (if (20 : Int32) = 20 then (if m_X7_isMix val = 0 then _ else m_X7_mixItem_25 0 (mQ m f 20 beg ps val 0)) else _) = _
  rw [if_pos rfl, if_neg h]
  unfold m_X7_mixItem_25
  show pv_gz 0 (Option.bind (m_X7_number 1 31 (mQ m f 20 beg ps val 0)) fun u3 => if u3.2.2.2.2.2.2.2.2.2.2.2.2.2.2.1 = 0 then some (upd u3.2.1 1 u3.1, u3.2.2) else some u3.2) = _
  rw [nb_ok 1 31 m f beg ps val h2 hr, Option.bind_some]
  show pv_gz 0 (if (0 : Int32) = 0 then some (mQ m (upd f 1 val) rt b e rv 0) else _) = _
  rw [if_pos rfl]
  rfl
theorem mixI {P : pv_PT} {m : pv_MT} {L : Nat} (hT : TP P m L) {A : pv_TT} {f : Nat → Int32} {b e : Nat} {ct cv rv : Int32} (hbe : b < e) (he : e ≤ L) (hR : RT A f) (hI : IT A 9999) : ∃ M1, m_X7_reads (mQ m f 7 (nI b) (nI e) rv 0) = some M1 ∧ It P m L b (m_X5_takesMix (pQ P ct (nI b) (nI e) cv, A)) (m_X7_mixItem M1) := by
  have hL : L ≤ 120 := hT.2.2.2
  obtain ⟨ct1, rt1, cv1, rv1, b1, e1, i1, i2, i3, i4, x1, y1, k1⟩ := step_ok hT he f ct (nI b) cv 7 (nI b) rv 0
  refine ⟨_, y1, ?_⟩
  rw [tm_x x1]
  show It P m L b (if ct1 = 2 then (if m_X6_isMix cv1 = 0 then some (0, (pQ P ct1 (nI b1) (nI e1) cv1, A)) else Option.bind (m_X5_step (pQ P ct1 (nI b1) (nI e1) cv1)) fun u4 => some (1, (u4, (A.1, cv1, A.2.2)))) else some (0, (pQ P ct1 (nI b1) (nI e1) cv1, A))) _
  have bad : (¬ rt1 = 20 ∨ m_X7_isMix rv1 = 0) → It P m L b (some (0, (pQ P ct1 (nI b1) (nI e1) cv1, A))) (m_X7_mixItem (mQ m f rt1 (nI b1) (nI e1) rv1 0)) := fun hb =>
    ⟨0, _, _, _, rfl, mi_bad m f rt1 (nI b1) (nI e1) rv1 hb, Or.inl ⟨rfl, ct1, cv1, rt1, rv1, b1, e1, f, by omega, rfl, rfl⟩⟩
  rcases TK_num k1 with ⟨rfl, rfl, hv⟩ | ⟨n1, n2⟩
  · rcases VR_mix hv with ⟨g1, g2⟩ | ⟨v, hv1, hv2, rfl, rfl, g1, g2, g3⟩
    · rw [if_pos rfl, g1, if_pos rfl]
      exact bad (Or.inr g2)
    · obtain ⟨ct2, rt2, cv2, rv2, b2, e2, j1, j2, j3, j4, x2, y2, k2⟩ := step_ok hT i3 f 2 (nI b1) (nI v) 20 (nI b1) (nI v) 0
      rw [if_pos rfl, g1, if_neg (show ¬ (1 : Int32) = 0 by decide), x2, Option.bind_some, mi_ok (by rw [g2]; decide) (by rw [g3]; decide) y2]
      exact ⟨1, _, _, _, rfl, rfl, Or.inr ⟨rfl, _, b2, e2, by omega, ct2, rt2, cv2, rv2, rfl, rfl, j2, j3, j4, k2, RT_mix hR (nI v), IT_mix hI hv1 hv2⟩⟩
  · rw [if_neg n1]
    exact bad (Or.inl n2)
/-! province -/
def owT (A : pv_TT) (p : Nat) (k : Int32) : pv_TT := (A.1, A.2.1, A.2.2.1, upd A.2.2.2.1 p k, A.2.2.2.2)
theorem tv_81 {v : Nat} (hv : v < 8) (k : Int32) {p p1 : pv_PT} {A : pv_TT} (x1 : m_X5_step p = some p1) : m_X5_takesProvince_81 (nI v) k (p, A) = some (1, (p1, owT A v k)) := by
  unfold m_X5_takesProvince_81
  show pv_gd (nI v) 8 (Option.bind (m_X5_step p) fun u9 => some (1, (u9, owT A (nI v).toNatClampNeg k))) = _
  rw [gd_nI hv (by omega), x1, nI_clamp (by omega)]
  rfl
theorem tv_x {p p1 : pv_PT} {A : pv_TT} (x1 : m_X5_step p = some p1) : m_X5_takesProvince (p, A) = (if p1.2.2.1 = 2 then (if m_X6_isProvince p1.2.2.2.2.2 = 0 then some (0, (p1, A)) else Option.bind (m_X5_step p1) fun u4 => Option.bind (m_X5_isWord 9 u4) fun u5 => if u5 = 0 then (if u4.2.2.1 = 2 then (if m_X6_isState u4.2.2.2.2.2 = 0 then some (0, (u4, A)) else m_X5_takesProvince_64 p1.2.2.2.2.2 u5 (u4, A)) else some (0, (u4, A))) else m_X5_takesProvince_64 p1.2.2.2.2.2 u5 (u4, A)) else some (0, (p1, A))) := by
  unfold m_X5_takesProvince
  show (Option.bind (m_X5_step p) fun u1 => if u1.2.2.1 = 2 then (if m_X6_isProvince u1.2.2.2.2.2 = 0 then some (0, (u1, A)) else Option.bind (m_X5_step u1) fun u4 => Option.bind (m_X5_isWord 9 u4) fun u5 => if u5 = 0 then (if u4.2.2.1 = 2 then (if m_X6_isState u4.2.2.2.2.2 = 0 then some (0, (u4, A)) else m_X5_takesProvince_64 u1.2.2.2.2.2 u5 (u4, A)) else some (0, (u4, A))) else m_X5_takesProvince_64 u1.2.2.2.2.2 u5 (u4, A)) else some (0, (u1, A))) = _
  rw [x1, Option.bind_some]
theorem li_27 {v : Nat} (hv : v < 8) (k : Int32) (m : pv_MT) (f : Nat → Int32) (tk beg ps val : Int32) : m_X7_landItem_27 (nI v) k (mQ m f tk beg ps val 0) = some (mQ m (upd f (7 + v) k) tk beg ps val 0) := by
  unfold m_X7_landItem_27
  show (if (0 : Int32) = 0 then pv_gd (7 + nI v) 31 (some (mQ m (upd f (7 + nI v).toNatClampNeg k) tk beg ps val 0)) else _) = _
  rw [if_pos rfl, show (7 : Int32) + nI v = nI (7 + v) from nI_add 7 v, gd_nI (by omega) (by omega), nI_clamp (by omega)]
theorem li_27b (x1 k : Int32) (m : pv_MT) (f : Nat → Int32) (tk beg ps val : Int32) : m_X7_landItem_27 x1 k (mQ m f tk beg ps val 1) = some (mQ m f tk beg ps val 1) := by
  unfold m_X7_landItem_27
  show (if (1 : Int32) = 0 then _ else some (mQ m f tk beg ps val 1)) = _
  rw [if_neg (show ¬ (1 : Int32) = 0 by decide)]
theorem landI {P : pv_PT} {m : pv_MT} {L : Nat} (hT : TP P m L) {A : pv_TT} {f : Nat → Int32} {b e : Nat} {ct cv rv : Int32} (hbe : b < e) (he : e ≤ L) (hR : RT A f) (hI : IT A 9999) : ∃ M1, m_X7_reads (mQ m f 8 (nI b) (nI e) rv 0) = some M1 ∧ It P m L b (m_X5_takesProvince (pQ P ct (nI b) (nI e) cv, A)) (m_X7_landItem M1) := by
  have hL : L ≤ 120 := hT.2.2.2
  obtain ⟨ct1, rt1, cv1, rv1, b1, e1, i1, i2, i3, i4, x1, y1, k1⟩ := step_ok hT he f ct (nI b) cv 8 (nI b) rv 0
  refine ⟨_, y1, ?_⟩
  rw [tv_x x1]
  show It P m L b (if ct1 = 2 then (if m_X6_isProvince cv1 = 0 then some (0, (pQ P ct1 (nI b1) (nI e1) cv1, A)) else Option.bind (m_X5_step (pQ P ct1 (nI b1) (nI e1) cv1)) fun u4 => Option.bind (m_X5_isWord 9 u4) fun u5 => if u5 = 0 then (if u4.2.2.1 = 2 then (if m_X6_isState u4.2.2.2.2.2 = 0 then some (0, (u4, A)) else m_X5_takesProvince_64 cv1 u5 (u4, A)) else some (0, (u4, A))) else m_X5_takesProvince_64 cv1 u5 (u4, A)) else some (0, (pQ P ct1 (nI b1) (nI e1) cv1, A))) _
  unfold m_X7_landItem
  have bad : (¬ rt1 = 20 ∨ m_X7_in rv1.toInt64 0 7 = 0) → It P m L b (some (0, (pQ P ct1 (nI b1) (nI e1) cv1, A))) (Option.bind (m_X7_number 0 7 (mQ m f rt1 (nI b1) (nI e1) rv1 0)) fun u_1 => Option.bind (m_X7_passes 9 u_1.2) fun u_2 => if u_2.1 = 0 then (Option.bind (m_X7_number 0 1 u_2.2) fun u_4 => m_X7_landItem_27 u_1.1 u_4.1 u_4.2) else m_X7_landItem_27 u_1.1 (-1) u_2.2) := by
    intro hb
    rw [nb_bad 0 7 m f rt1 (nI b1) (nI e1) rv1 hb, Option.bind_some]
    show It P m L b _ (Option.bind (m_X7_passes 9 (mQ m f rt1 (nI b1) (nI e1) rv1 1)) fun u_2 => if u_2.1 = 0 then (Option.bind (m_X7_number 0 1 u_2.2) fun u_4 => m_X7_landItem_27 rv1 u_4.1 u_4.2) else m_X7_landItem_27 rv1 (-1) u_2.2)
    rw [ps_bad, Option.bind_some]
    show It P m L b _ (if (0 : Int32) = 0 then (Option.bind (m_X7_number 0 1 (mQ m f rt1 (nI b1) (nI e1) rv1 1)) fun u_4 => m_X7_landItem_27 rv1 u_4.1 u_4.2) else _)
    rw [if_pos rfl, nb_bad1, Option.bind_some]
    exact ⟨0, _, _, _, rfl, li_27b _ _ m f rt1 (nI b1) (nI e1) rv1, Or.inl ⟨rfl, ct1, cv1, rt1, rv1, b1, e1, f, by omega, rfl, rfl⟩⟩
  rcases TK_num k1 with ⟨rfl, rfl, hv⟩ | ⟨n1, n2⟩
  rotate_left
  · rw [if_neg n1]
    exact bad (Or.inl n2)
  rcases VR_land hv with ⟨g1, g2⟩ | ⟨v, hv1, rfl, rfl, g1, g2⟩
  · rw [if_pos rfl, g1, if_pos rfl]
    exact bad (Or.inr g2)
  obtain ⟨ct2, rt2, cv2, rv2, b2, e2, j1, j2, j3, j4, x2, y2, k2⟩ := step_ok hT i3 f 2 (nI b1) (nI v) 20 (nI b1) (nI v) 0
  rw [if_pos rfl, g1, if_neg (show ¬ (1 : Int32) = 0 by decide), x2, Option.bind_some, k2.2 9 (by omega), Option.bind_some, nb_ok 0 7 m f (nI b1) (nI e1) (nI v) (by rw [g2]; decide) y2, Option.bind_some]
  show It P m L b (if (if rt2 = nI 9 then (1 : Int32) else 0) = 0 then (if ct2 = 2 then (if m_X6_isState cv2 = 0 then some (0, (pQ P ct2 (nI b2) (nI e2) cv2, A)) else m_X5_takesProvince_64 (nI v) (if rt2 = nI 9 then 1 else 0) (pQ P ct2 (nI b2) (nI e2) cv2, A)) else some (0, (pQ P ct2 (nI b2) (nI e2) cv2, A))) else m_X5_takesProvince_64 (nI v) (if rt2 = nI 9 then 1 else 0) (pQ P ct2 (nI b2) (nI e2) cv2, A)) (Option.bind (m_X7_passes 9 (mQ m f rt2 (nI b2) (nI e2) rv2 0)) fun u_2 => if u_2.1 = 0 then (Option.bind (m_X7_number 0 1 u_2.2) fun u_4 => m_X7_landItem_27 (nI v) u_4.1 u_4.2) else m_X7_landItem_27 (nI v) (-1) u_2.2)
  have done : ∀ (q : Int32) (tk0 : Int32) (rv0 : Int32) (ct0 cv0 : Int32), (q = -1 ∨ q = 0 ∨ q = 1) → ∃ (rt3 rv3 : Int32) (b3 e3 : Nat), m_X7_reads (mQ m f tk0 (nI b2) (nI e2) rv0 0) = some (mQ m f rt3 (nI b3) (nI e3) rv3 0) ∧ It P m L b (m_X5_takesProvince_81 (nI v) q (pQ P ct0 (nI b2) (nI e2) cv0, A)) (m_X7_landItem_27 (nI v) q (mQ m f rt3 (nI b3) (nI e3) rv3 0)) := by
    intro q tk0 rv0 ct0 cv0 hq
    obtain ⟨ct3, rt3, cv3, rv3, b3, e3, l1, l2, l3, l4, x3, y3, k3⟩ := step_ok hT j3 f ct0 (nI b2) cv0 tk0 (nI b2) rv0 0
    refine ⟨rt3, rv3, b3, e3, y3, ?_⟩
    rw [tv_81 hv1 q x3, li_27 hv1]
    exact ⟨1, _, _, _, rfl, rfl, Or.inr ⟨rfl, _, b3, e3, by omega, ct3, rt3, cv3, rv3, rfl, rfl, l2, l3, l4, k3, RT_own hR hv1 q, IT_own hI hq⟩⟩
  by_cases c9 : rt2 = nI 9
  · subst c9
    obtain ⟨rt3, rv3, b3, e3, y3, d3⟩ := done (-1) (nI 9) rv2 ct2 cv2 (Or.inl rfl)
    have py : m_X7_passes 9 (mQ m f (nI 9) (nI b2) (nI e2) rv2 0) = some (1, mQ m f rt3 (nI b3) (nI e3) rv3 0) := ps_yes 9 m f (nI b2) (nI e2) rv2 y3
    rw [if_pos rfl, if_neg (show ¬ (1 : Int32) = 0 by decide), py, Option.bind_some]
    unfold m_X5_takesProvince_64
    rw [if_neg (show ¬ (1 : Int32) = 0 by decide)]
    show It P m L b _ (if (1 : Int32) = 0 then _ else m_X7_landItem_27 (nI v) (-1) (mQ m f rt3 (nI b3) (nI e3) rv3 0))
    rw [if_neg (show ¬ (1 : Int32) = 0 by decide)]
    exact d3
  · have pn : m_X7_passes 9 (mQ m f rt2 (nI b2) (nI e2) rv2 0) = some (0, mQ m f rt2 (nI b2) (nI e2) rv2 0) := ps_no 9 m f rt2 (nI b2) (nI e2) rv2 c9
    rw [if_neg c9, if_pos rfl, pn, Option.bind_some]
    show It P m L b _ (if (0 : Int32) = 0 then (Option.bind (m_X7_number 0 1 (mQ m f rt2 (nI b2) (nI e2) rv2 0)) fun u_4 => m_X7_landItem_27 (nI v) u_4.1 u_4.2) else _)
    rw [if_pos rfl]
    have bad2 : (¬ rt2 = 20 ∨ m_X7_in rv2.toInt64 0 1 = 0) → It P m L b (some (0, (pQ P ct2 (nI b2) (nI e2) cv2, A))) (Option.bind (m_X7_number 0 1 (mQ m f rt2 (nI b2) (nI e2) rv2 0)) fun u_4 => m_X7_landItem_27 (nI v) u_4.1 u_4.2) := by
      intro hb
      rw [nb_bad 0 1 m f rt2 (nI b2) (nI e2) rv2 hb, Option.bind_some]
      exact ⟨0, _, _, _, rfl, li_27b _ _ m f rt2 (nI b2) (nI e2) rv2, Or.inl ⟨rfl, ct2, cv2, rt2, rv2, b2, e2, f, by omega, rfl, rfl⟩⟩
    rcases TK_num k2 with ⟨rfl, rfl, hv2⟩ | ⟨n1, n2⟩
    rotate_left
    · rw [if_neg n1]
      exact bad2 (Or.inl n2)
    rcases VR_state hv2 with ⟨g3, g4⟩ | ⟨u, hu, rfl, rfl, g3, g4⟩
    · rw [if_pos rfl, g3, if_pos rfl]
      exact bad2 (Or.inr g4)
    · have hq : nI u = -1 ∨ nI u = 0 ∨ nI u = 1 := by
        rcases (show u = 0 ∨ u = 1 by omega) with rfl | rfl
        · exact Or.inr (Or.inl rfl)
        · exact Or.inr (Or.inr rfl)
      obtain ⟨rt3, rv3, b3, e3, y3, d3⟩ := done (nI u) 20 (nI u) 2 (nI u) hq
      rw [if_pos rfl, g3, if_neg (show ¬ (1 : Int32) = 0 by decide), nb_ok 0 1 m f (nI b2) (nI e2) (nI u) (by rw [g4]; decide) y3, Option.bind_some]
      unfold m_X5_takesProvince_64
      rw [if_pos rfl]
      exact d3
