/-! LOOKING AHEAD MONTH BY MONTH -/
theorem one_ok {T : pv_TT} (g : pv_GT) {w : pv_MT} {B : Nat} (hR : RT T w.1) (hI : IT T B) (hB : B < 2 ^ 20) :
    ∃ T' g' w', m_X4_passMonths 1 (T, g) = some (T', g') ∧ m_X7_goes w = some w' ∧ RT T' w'.1 ∧ IT T' (B + 1) ∧ core w' = core w ∧ T'.2.2.1 = T.2.2.1 := by
  obtain ⟨T1, g1, w1, q1, q2, q3, q4, q5, q6, -⟩ := month_ok g hR hI hB
  refine ⟨T1, g1, w1, ?_, q2, q3, q4, q5, q6⟩
  have e1 : m_X4_passMonths 1 (T, g) = m_X4_passMonths_2 (298 + 1 + 1) 1 0 (T, g) := rfl
  rw [e1, q1 _ _ _ (by decide), m_X4_passMonths_2_s, if_pos (by decide)]
theorem when_x (n : Nat) (x1 x2 x3 : Int32) (x : pv_XT) (A : pv_TT) (g : pv_GT) : m_X6_when_34 (n + 1) x1 x2 x3 (xA x A g) = (if 100 < x3 then (Option.bind (m_X6_finding (-1000000004) (xA x A g)) fun u => some (u.1, u.2)) else pv_gd x1 8 (if A.2.2.2.1 x1.toNatClampNeg = x2 then some (x3, xA x A g) else Option.bind (m_X4_passMonths 1 (A, g)) fun u => m_X6_when_34 n x1 x2 (x3 + 1) (xA x u.1 u.2))) := rfl
theorem when_n (p : Nat) (hp : p < 8) (st : Int32) (x : pv_XT) : ∀ (k i n n2 : Nat) (A : pv_TT) (g : pv_GT) (m : pv_MT) (B : Nat), i + k = 101 → k < n → k < n2 → Th x m → RT A m.1 → IT A B → B + k < 2 ^ 20 →
    Sim (m_X6_when_34 n (nI p) st (nI i) (xA x A g)) (m_X7_when_30 n2 (nI p) st (nI i) m)
  | 0, i, n, n2, A, g, m, B, hi, hn, hn2, hT, hA, hI, hB => by
    obtain ⟨n, rfl⟩ : ∃ n', n = n' + 1 := ⟨n - 1, by omega⟩
    obtain ⟨n2, rfl⟩ : ∃ n', n2 = n' + 1 := ⟨n2 - 1, by omega⟩
    have h1 : (100 : Int32) < nI i := nI_lt (a := 100) (by omega) (by omega)
    have h2 : ¬ nI i ≤ (100 : Int32) := nI_ge (a := 100) (by omega) (by omega)
    obtain ⟨m3, b1, b2, b3, b4⟩ := putsBack_ok hT
    rw [when_x, m_X7_when_30_s, if_pos h1, if_pos h1]
    unfold m_X7_when_59
    rw [b1, Option.bind_some, if_neg h2]
    exact S_none (x := xA x A g) (Th_Rel (x := xA x A g) b2 b3)
  | k + 1, i, n, n2, A, g, m, B, hi, hn, hn2, hT, hA, hI, hB => by
    obtain ⟨n, rfl⟩ : ∃ n', n = n' + 1 := ⟨n - 1, by omega⟩
    obtain ⟨n2, rfl⟩ : ∃ n', n2 = n' + 1 := ⟨n2 - 1, by omega⟩
    have h1 : ¬ (100 : Int32) < nI i := nI_nlt (a := 100) (by omega) (by omega)
    have h2 : nI i ≤ (100 : Int32) := nI_le (b := 100) (by omega) (by omega)
    have e : m.1 (7 + p) = A.2.2.2.1 p := hA.2.2.2.2.2.1 p hp
    rw [when_x, m_X7_when_30_s, if_neg h1, if_neg h1, gd_nI hp (by omega), show (7 : Int32) = nI 7 from rfl, nI_add, gd_nI (by omega) (by omega), nI_clamp (by omega), nI_clamp (by omega), e]
    by_cases q : A.2.2.2.1 p = st
    · rw [if_pos q, if_pos q]
      obtain ⟨m3, b1, b2, b3, b4⟩ := putsBack_ok hT
      unfold m_X7_when_59
      rw [b1, Option.bind_some, if_pos h2]
      exact ⟨_, _, _, rfl, rfl, Th_Rel (x := xA x A g) b2 b3⟩
    · rw [if_neg q, if_neg q]
      obtain ⟨T', g', w', q1, q2, q3, q4, q5, q6⟩ := one_ok g hA hI (by omega)
      rw [q1, q2, Option.bind_some, Option.bind_some, nI_1]
      exact when_n p hp st x k (i + 1) n n2 T' g' w' (B + 1) (by omega) (by omega) (by omega) (Th_core q5 hT) q3 q4 (by omega)
theorem sim_when (v0 : Int32) (v1 : Int32) (x : pv_XT) (mm : pv_MT) (hR : Rel x mm) : ∃ (r : Int32) (x2 : pv_XT) (m2 : pv_MT), m_X6_when v0 v1 x = some (r, x2) ∧ m_X7_when v0 v1 mm = some (r, m2) ∧ Rel x2 m2 := by
  show Sim (m_X6_when v0 v1 x) (m_X7_when v0 v1 mm)
  unfold m_X6_when m_X7_when
  rcases land_c v0 with ⟨h1, h2⟩ | ⟨p, hp, rfl, h1, h2⟩
  · rw [h1, h2, if_pos rfl]; exact S_bey hR
  · rw [h1, h2, if_neg (by decide), Option.bind_some, if_neg (show ¬ (1 : Int32) = 0 by decide)]
    rcases nob_c v1 with ⟨g1, g2⟩ | ⟨hv, g1, g2⟩
    · rw [g1, g2, if_pos rfl, if_pos rfl]; exact S_bey hR
    · rw [g1, g2, if_neg (show ¬ (1 : Int32) = 0 by decide), if_neg (show ¬ (1 : Int32) = 0 by decide)]
      obtain ⟨m1, t1, t2, t3⟩ := thinks_ok hR
      obtain ⟨A, a1, a2, a3, a4⟩ := ahead_0 (x := x) (m := m1) (by rw [t3]; exact hR.1) hR.2.1
      rw [t1, Option.bind_some, bec_k (m_X6_when_34 300 (nI p) v1 0) a1]
      have e1 : m_X6_when_34 300 (nI p) v1 0 (xA x A x.2.2.2.1) = m_X6_when_34 300 (nI p) v1 (nI 0) (xA x A x.2.2.2.1) := rfl
      have e2 : m_X7_when_30 300 (nI p) v1 0 m1 = m_X7_when_30 300 (nI p) v1 (nI 0) m1 := rfl
      rw [e1, e2]
      exact when_n p hp v1 x 101 0 300 300 A x.2.2.2.1 m1 9999 (by omega) (by omega) (by omega) t2 a2 a3 (by omega)
theorem all_x (n : Nat) (x1 x2 : Int32) (x : pv_XT) (A : pv_TT) (g : pv_GT) : m_X6_all_27 (n + 1) x1 x2 (xA x A g) = (if 100 < x2 then (Option.bind (m_X6_finding (-1000000004) (xA x A g)) fun u => some (u.1, u.2)) else Option.bind (m_X4_owned x1 A) fun u => if u = 8 then some (x2, xA x A g) else Option.bind (m_X4_passMonths 1 (A, g)) fun u => m_X6_all_27 n x1 (x2 + 1) (xA x u.1 u.2)) := rfl
theorem all_n (st : Int32) (x : pv_XT) : ∀ (k i n n2 : Nat) (A : pv_TT) (g : pv_GT) (m : pv_MT) (B : Nat), i + k = 101 → k < n → k < n2 → Th x m → RT A m.1 → IT A B → B + k < 2 ^ 20 →
    Sim (m_X6_all_27 n st (nI i) (xA x A g)) (m_X7_all_20 n2 st (nI i) m)
  | 0, i, n, n2, A, g, m, B, hi, hn, hn2, hT, hA, hI, hB => by
    obtain ⟨n, rfl⟩ : ∃ n', n = n' + 1 := ⟨n - 1, by omega⟩
    obtain ⟨n2, rfl⟩ : ∃ n', n2 = n' + 1 := ⟨n2 - 1, by omega⟩
    have h1 : (100 : Int32) < nI i := nI_lt (a := 100) (by omega) (by omega)
    have h2 : ¬ nI i ≤ (100 : Int32) := nI_ge (a := 100) (by omega) (by omega)
    obtain ⟨m3, b1, b2, b3, b4⟩ := putsBack_ok hT
    rw [all_x, m_X7_all_20_s, if_pos h1, if_pos h1]
    unfold m_X7_all_49
    rw [b1, Option.bind_some, if_neg h2]
    exact S_none (x := xA x A g) (Th_Rel (x := xA x A g) b2 b3)
  | k + 1, i, n, n2, A, g, m, B, hi, hn, hn2, hT, hA, hI, hB => by
    obtain ⟨n, rfl⟩ : ∃ n', n = n' + 1 := ⟨n - 1, by omega⟩
    obtain ⟨n2, rfl⟩ : ∃ n', n2 = n' + 1 := ⟨n2 - 1, by omega⟩
    have h1 : ¬ (100 : Int32) < nI i := nI_nlt (a := 100) (by omega) (by omega)
    have h2 : nI i ≤ (100 : Int32) := nI_le (b := 100) (by omega) (by omega)
    obtain ⟨c, hc, o1, o2⟩ := bits_own hA st
    rw [all_x, m_X7_all_20_s, if_neg h1, if_neg h1, o2, o1, Option.bind_some]
    by_cases q : c = 8
    · subst q
      rw [if_pos (show nI 8 = 8 from rfl), if_pos (show (8 : Int32) ≤ nI 8 by decide)]
      obtain ⟨m3, b1, b2, b3, b4⟩ := putsBack_ok hT
      unfold m_X7_all_49
      rw [b1, Option.bind_some, if_pos h2]
      exact ⟨_, _, _, rfl, rfl, Th_Rel (x := xA x A g) b2 b3⟩
    · have q1 : ¬ nI c = 8 := fun e => q (nI_inj32 (by omega) (by omega) e)
      have q2 : ¬ (8 : Int32) ≤ nI c := nI_ge (b := 8) (by omega) (by omega)
      rw [if_neg q1, if_neg q2]
      obtain ⟨T', g', w', q1, q2, q3, q4, q5, q6⟩ := one_ok g hA hI (by omega)
      rw [q1, q2, Option.bind_some, Option.bind_some, nI_1]
      exact all_n st x k (i + 1) n n2 T' g' w' (B + 1) (by omega) (by omega) (by omega) (Th_core q5 hT) q3 q4 (by omega)
theorem sim_all (v0 : Int32) (x : pv_XT) (mm : pv_MT) (hR : Rel x mm) : ∃ (r : Int32) (x2 : pv_XT) (m2 : pv_MT), m_X6_all v0 x = some (r, x2) ∧ m_X7_all v0 mm = some (r, m2) ∧ Rel x2 m2 := by
  show Sim (m_X6_all v0 x) (m_X7_all v0 mm)
  unfold m_X6_all m_X7_all
  rcases state_c v0 with ⟨h1, h2⟩ | ⟨s, hs, rfl, h1, h2⟩
  · rw [h1, h2, if_pos rfl]; exact S_bey hR
  · rw [h1, h2, if_neg (by decide), Option.bind_some, if_neg (show ¬ (1 : Int32) = 0 by decide)]
    obtain ⟨m1, t1, t2, t3⟩ := thinks_ok hR
    obtain ⟨A, a1, a2, a3, a4⟩ := ahead_0 (x := x) (m := m1) (by rw [t3]; exact hR.1) hR.2.1
    rw [t1, Option.bind_some, bec_k (m_X6_all_27 300 (nI s) 0) a1]
    have e1 : m_X6_all_27 300 (nI s) 0 (xA x A x.2.2.2.1) = m_X6_all_27 300 (nI s) (nI 0) (xA x A x.2.2.2.1) := rfl
    have e2 : m_X7_all_20 300 (nI s) 0 m1 = m_X7_all_20 300 (nI s) (nI 0) m1 := rfl
    rw [e1, e2]
    exact all_n (nI s) x 101 0 300 300 A x.2.2.2.1 m1 9999 (by omega) (by omega) (by omega) t2 a2 a3 (by omega)
