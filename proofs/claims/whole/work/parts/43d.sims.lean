/-! CALLS THAT ASK HOW AN ENVOY PLAYS; MONTHS -/
def asCode (j k : Int32) : Int32 := if j = 0 then 1 else if j = k then 1 else if j = 1 then (if k = 4 then 1 else (if j = 2 then (if k = 5 then 1 else 0) else 0)) else (if j = 2 then (if k = 5 then 1 else 0) else 0)
theorem asCode_tab : ∀ k j : Fin 6, m_X2_isUnder (nI k.val) (nI j.val) = some (asCode (nI j.val) (nI k.val)) := by decide +kernel
theorem as_inner (v0 x2 u : Int32) (m : pv_MT) : (if x2 = 0 then m_X7_as_61 v0 m else if x2 = u then m_X7_as_61 v0 m else if x2 = 1 then (if u = 4 then m_X7_as_61 v0 m else m_X7_as_51 v0 x2 u m) else m_X7_as_51 v0 x2 u m) = m_X7_as_66 v0 (asCode x2 u) m := by
  unfold asCode m_X7_as_51 m_X7_as_61 m_X7_as_65
  by_cases h0 : x2 = 0
  · rw [if_pos h0, if_pos h0]
  · rw [if_neg h0, if_neg h0]
    by_cases h1 : x2 = u
    · rw [if_pos h1, if_pos h1]
    · rw [if_neg h1, if_neg h1]
      by_cases h2 : x2 = 1
      · rw [if_pos h2, if_pos h2]
        by_cases h3 : u = 4
        · rw [if_pos h3, if_pos h3]
        · rw [if_neg h3, if_neg h3]
          by_cases h4 : x2 = 2
          · rw [if_pos h4, if_pos h4]
            by_cases h5 : u = 5
            · rw [if_pos h5, if_pos h5]
            · rw [if_neg h5, if_neg h5]
          · rw [if_neg h4, if_neg h4]
      · rw [if_neg h2, if_neg h2]
        by_cases h4 : x2 = 2
        · rw [if_pos h4, if_pos h4]
          by_cases h5 : u = 5
          · rw [if_pos h5, if_pos h5]
          · rw [if_neg h5, if_neg h5]
        · rw [if_neg h4, if_neg h4]
theorem sim_as (v0 : Int32) (v1 : Int32) (x : pv_XT) (mm : pv_MT) (hR : Rel x mm) : ∃ (r : Int32) (x2 : pv_XT) (m2 : pv_MT), m_X6_as v0 v1 x = some (r, x2) ∧ m_X7_as v0 v1 mm = some (r, m2) ∧ Rel x2 m2 := by
  show Sim (m_X6_as v0 v1 x) (m_X7_as v0 v1 mm)
  unfold m_X6_as m_X7_as
  rcases envoy_c hR v0 with ⟨h1, h2⟩ | ⟨k, N, hk, hN, eN, rfl, h1, h2⟩
  · rw [h1, h2, if_pos rfl]; exact S_bey hR
  · rw [h1, h2, if_neg (by decide), Option.bind_some, if_neg (show ¬ (1 : Int32) = 0 by decide)]
    rcases kind_c v1 with ⟨g1, g2⟩ | ⟨j, hj, rfl, g1, g2⟩
    · rw [g1, g2, if_pos rfl, if_pos rfl]; exact S_bey hR
    · rw [g1, g2, if_neg (show ¬ (1 : Int32) = 0 by decide), if_neg (show ¬ (1 : Int32) = 0 by decide)]
      obtain ⟨kk, hkk, ekk⟩ := hR.2.1.2.2.2.2.2.1 k (by omega)
      have ek : mm.1 (15 + 2 * k) = nI kk := (hR.1.2.2.2.2.2.2.1 k (by omega)).trans ekk
      have ew : mm.1 (16 + 2 * k) = x.1.2.2.2.2.2.2.2 k := hR.1.2.2.2.2.2.2.2 k (by omega)
      rw [it_0 mm (by omega), Option.bind_some, as_inner, ek, gd_nI (by omega) (by omega), nI_clamp (by omega), ekk, asCode_tab ⟨kk, hkk⟩ ⟨j, hj⟩, Option.bind_some]
      unfold m_X7_as_66
      by_cases q : asCode (nI j) (nI kk) = 0
      · rw [if_pos q, if_pos q]; exact S_knd hR
      · rw [if_neg q, if_neg q, gd_nI (by omega) (by omega), it_1 mm (by omega), ew]
        exact ⟨_, x, mm, rfl, rfl, hR⟩
theorem trump_eq {T : pv_TT} {M : Nat} (hM : T.1 = nI M) (h : M < 2 ^ 31) : m_X4_trump T = nI (M % 4) := by unfold m_X4_trump; rw [hM]; exact lit_rem4 h
theorem sim_leads (v0 : Int32) (v1 : Int32) (x : pv_XT) (mm : pv_MT) (hR : Rel x mm) : ∃ (r : Int32) (x2 : pv_XT) (m2 : pv_MT), m_X6_leads v0 v1 x = some (r, x2) ∧ m_X7_leads v0 v1 mm = some (r, m2) ∧ Rel x2 m2 := by
  show Sim (m_X6_leads v0 v1 x) (m_X7_leads v0 v1 mm)
  unfold m_X6_leads m_X7_leads
  rcases envoy_c hR v0 with ⟨h1, h2⟩ | ⟨k, N, hk, hN, eN, rfl, h1, h2⟩
  · rw [h1, h2, if_pos rfl]; exact S_bey hR
  · rw [h1, h2, if_neg (by decide), Option.bind_some, if_neg (show ¬ (1 : Int32) = 0 by decide)]
    rcases state_c v1 with ⟨g1, g2⟩ | ⟨s, hs, rfl, g1, g2⟩
    · rw [g1, g2, if_pos rfl, Option.bind_some, if_pos rfl]; exact S_bey hR
    · obtain ⟨M, hM, eM⟩ := IT_month hR.2.1
      obtain ⟨h, a1, a2, a3⟩ := hand_ok hR.1 hR.2.1 (by omega) hs
      obtain ⟨z, b1, b2, -⟩ := lead_ok (w := mm) (M := M) (e := k) h (hR.1.1.trans eM) (by omega) (by omega) (hR.1.2.2.2.2.2.2.1 k (by omega))
      rw [g1, g2, if_neg (show ¬ (1 : Int32) = 0 by decide), Option.bind_some, if_neg (show ¬ (1 : Int32) = 0 by decide), gd_nI (by omega) (by omega), nI_clamp (by omega), a1, a2, Option.bind_some, Option.bind_some, trump_eq eM (by omega), b1, b2]
      exact ⟨z, x, mm, rfl, rfl, hR⟩
theorem sim_follows (v0 : Int32) (v1 : Int32) (v2 : Int32) (x : pv_XT) (mm : pv_MT) (hR : Rel x mm) : ∃ (r : Int32) (x2 : pv_XT) (m2 : pv_MT), m_X6_follows v0 v1 v2 x = some (r, x2) ∧ m_X7_follows v0 v1 v2 mm = some (r, m2) ∧ Rel x2 m2 := by
  show Sim (m_X6_follows v0 v1 v2 x) (m_X7_follows v0 v1 v2 mm)
  unfold m_X6_follows m_X7_follows
  rcases envoy_c hR v0 with ⟨h1, h2⟩ | ⟨k, N, hk, hN, eN, rfl, h1, h2⟩
  · rw [h1, h2, if_pos rfl]; exact S_bey hR
  · rw [h1, h2, if_neg (by decide), Option.bind_some, if_neg (show ¬ (1 : Int32) = 0 by decide)]
    rcases state_c v1 with ⟨g1, g2⟩ | ⟨s, hs, rfl, g1, g2⟩
    · rw [g1, g2, if_pos rfl, Option.bind_some, if_pos rfl]; exact S_bey hR
    · rw [g1, g2, if_neg (show ¬ (1 : Int32) = 0 by decide), Option.bind_some, if_neg (show ¬ (1 : Int32) = 0 by decide)]
      rcases win_c v2 0 31 (by omega) (by omega) with ⟨c1, c2⟩ | ⟨n, -, hn, rfl, c1, c2⟩
      · have c1' : m_X6_isWithin v2 0 31 = 0 := c1
        have c2' : m_X7_in v2.toInt64 0 31 = 0 := c2
        rw [c1', c2', if_pos rfl, if_pos rfl]; exact S_bey hR
      · have c1' : m_X6_isWithin (nI n) 0 31 = 1 := c1
        have c2' : m_X7_in (nI n).toInt64 0 31 = 1 := c2
        obtain ⟨M, hM, eM⟩ := IT_month hR.2.1
        obtain ⟨h, a1, a2, a3⟩ := hand_ok hR.1 hR.2.1 (by omega) hs
        obtain ⟨kk, hkk, ekk⟩ := hR.2.1.2.2.2.2.2.1 k (by omega)
        obtain ⟨may, z, b1, b2, b3, -⟩ := follow_ok (w := mm) (M := M) (e := k) (kk := kk) (led := n) h (hR.1.1.trans eM) (by omega) (by omega) hkk ((hR.1.2.2.2.2.2.2.1 k (by omega)).trans ekk) (by omega) (cnt_pos (by omega))
        rw [c1', c2', if_neg (show ¬ (1 : Int32) = 0 by decide), if_neg (show ¬ (1 : Int32) = 0 by decide), gd_nI (by omega) (by omega), nI_clamp (by omega), a1, a2, Option.bind_some, Option.bind_some, ekk, trump_eq eM (by omega), eM, b1, Option.bind_some, b2, b3]
        exact ⟨z, x, mm, rfl, rfl, hR⟩
/-- the two ways to say that both have sent -/
theorem both_c {T : pv_TT} {m : pv_MT} {B : Nat} (hR : RT T m.1) (hI : IT T B) : (m_X4_bothSent T = some 0 ∧ m_X7_arePlaying m = some 0) ∨ (m_X4_bothSent T = some 1 ∧ m_X7_arePlaying m = some 1 ∧ ∀ s, s < 2 → ∃ e, e < 8 ∧ T.2.2.2.2.2.1 s = nI e) := by
  have r3 : m.1 3 = T.2.2.2.2.2.1 0 := hR.2.2.2.1 0 (by omega)
  have r4 : m.1 4 = T.2.2.2.2.2.1 1 := hR.2.2.2.1 1 (by omega)
  unfold m_X4_bothSent m_X7_arePlaying
  rw [r3, r4]
  rcases sent_cases hI (s := 0) (by omega) with ⟨a, a2⟩ | ⟨e0, he0, a, a2⟩
  · rw [if_pos a2]; exact Or.inl ⟨rfl, rfl⟩
  · rw [if_neg a2]
    rcases sent_cases hI (s := 1) (by omega) with ⟨b, b2⟩ | ⟨e1, he1, b, b2⟩
    · rw [if_pos b2]; exact Or.inl ⟨rfl, rfl⟩
    · rw [if_neg b2]
      refine Or.inr ⟨rfl, rfl, fun s hs => ?_⟩
      rcases (show s = 0 ∨ s = 1 by omega) with rfl | rfl
      · exact ⟨e0, he0, a⟩
      · exact ⟨e1, he1, b⟩
theorem Rel_played {x : pv_XT} {m m2 : pv_MT} (g : pv_GT) (hR : Rel x m) (h1 : m2.1 = m.1) (h2 : core m2 = core m) : Rel (x.1, x.2.1, x.2.2.1, g, x.2.2.2.2) m2 := ⟨by rw [h1]; exact hR.1, hR.2.1, RC_core (x := (x.1, x.2.1, x.2.2.1, g, x.2.2.2.2)) h2 hR.2.2⟩
theorem sim_trick (v0 : Int32) (v1 : Int32) (x : pv_XT) (mm : pv_MT) (hR : Rel x mm) : ∃ (r : Int32) (x2 : pv_XT) (m2 : pv_MT), m_X6_trick v0 v1 x = some (r, x2) ∧ m_X7_trick v0 v1 mm = some (r, m2) ∧ Rel x2 m2 := by
  show Sim (m_X6_trick v0 v1 x) (m_X7_trick v0 v1 mm)
  unfold m_X6_trick m_X7_trick
  rcases win_c v0 0 3 (by omega) (by omega) with ⟨c1, c2⟩ | ⟨t, -, ht, rfl, c1, c2⟩
  · have c1' : m_X6_isWithin v0 0 3 = 0 := c1
    have c2' : m_X7_in v0.toInt64 0 3 = 0 := c2
    rw [c1', c2', if_pos rfl, if_pos rfl]; exact S_bey hR
  · have c1' : m_X6_isWithin (nI t) 0 3 = 1 := c1
    have c2' : m_X7_in (nI t).toInt64 0 3 = 1 := c2
    rw [c1', c2', if_neg (show ¬ (1 : Int32) = 0 by decide), if_neg (show ¬ (1 : Int32) = 0 by decide)]
    rcases win_c v1 0 3 (by omega) (by omega) with ⟨d1, d2⟩ | ⟨j, -, hj, rfl, d1, d2⟩
    · have d1' : m_X6_isWithin v1 0 3 = 0 := d1
      have d2' : m_X7_in v1.toInt64 0 3 = 0 := d2
      rw [d1', d2', if_pos rfl, if_pos rfl]; exact S_bey hR
    · have d1' : m_X6_isWithin (nI j) 0 3 = 1 := d1
      have d2' : m_X7_in (nI j).toInt64 0 3 = 1 := d2
      rw [d1', d2', if_neg (show ¬ (1 : Int32) = 0 by decide), if_neg (show ¬ (1 : Int32) = 0 by decide)]
      rcases both_c hR.1 hR.2.1 with ⟨a1, a2⟩ | ⟨a1, a2, hs⟩
      · rw [a1, a2, Option.bind_some, Option.bind_some, if_pos rfl, if_pos rfl]; exact S_stat hR
      · obtain ⟨g', w', p1, p2, p3, p4, p5⟩ := play_ok (g := x.2.2.2.1) hR.1 hR.2.1 (by omega) hs
        obtain ⟨q0, q1, q2, q3, -⟩ := p3.2 t (by omega)
        have hR2 := Rel_played g' hR p4 p5
        rw [a1, a2, Option.bind_some, Option.bind_some, if_neg (show ¬ (1 : Int32) = 0 by decide), if_neg (show ¬ (1 : Int32) = 0 by decide), p1, p2, Option.bind_some, Option.bind_some, gd_nI (by omega) (by omega), gd_nI (by omega) (by omega), gd_nI (by omega) (by omega), gd_nI (by omega) (by omega), show (4 : Int32) = nI 4 from rfl, pk_mul, nI_add, gd_nI (by omega) (by omega), nI_clamp (by omega), nI_clamp (by omega)]
        rcases (show j = 0 ∨ j = 1 ∨ j = 2 ∨ j = 3 by omega) with rfl | rfl | rfl | rfl
        · exact ⟨_, _, _, rfl, congrArg some (Prod.ext q0.symm rfl), hR2⟩
        · exact ⟨_, _, _, rfl, congrArg some (Prod.ext q1.symm rfl), hR2⟩
        · exact ⟨_, _, _, rfl, congrArg some (Prod.ext q2.symm rfl), hR2⟩
        · exact ⟨_, _, _, rfl, congrArg some (Prod.ext q3.symm rfl), hR2⟩
theorem sim_tricks  (x : pv_XT) (mm : pv_MT) (hR : Rel x mm) : ∃ (r : Int32) (x2 : pv_XT) (m2 : pv_MT), m_X6_tricks  x = some (r, x2) ∧ m_X7_tricks  mm = some (r, m2) ∧ Rel x2 m2 := by
  show Sim (m_X6_tricks x) (m_X7_tricks mm)
  unfold m_X6_tricks m_X7_tricks
  rcases both_c hR.1 hR.2.1 with ⟨a1, a2⟩ | ⟨a1, a2, hs⟩
  · rw [a1, a2, Option.bind_some, Option.bind_some, if_pos rfl, if_pos rfl]; exact S_stat hR
  · obtain ⟨g', w', p1, p2, p3, p4, p5⟩ := play_ok (g := x.2.2.2.1) hR.1 hR.2.1 (by omega) hs
    have hR2 := Rel_played g' hR p4 p5
    rw [a1, a2, Option.bind_some, Option.bind_some, if_neg (show ¬ (1 : Int32) = 0 by decide), if_neg (show ¬ (1 : Int32) = 0 by decide), p1, p2, Option.bind_some, Option.bind_some, first_ok]
    exact ⟨_, _, _, rfl, rfl, hR2⟩
theorem IT_tight {T : pv_TT} {B M : Nat} (hI : IT T B) (hM : T.1 = nI M) : IT T M := ⟨⟨M, Nat.le_refl _, hM⟩, hI.2⟩
theorem months_ok {T : pv_TT} (g : pv_GT) {w : pv_MT} {B : Nat} (k : Nat) (hk : k ≤ 200) (hR : RT T w.1) (hI : IT T B) (hB : B + k < 2 ^ 20) :
    ∃ T' g' w', m_X4_passMonths (nI k) (T, g) = some (T', g') ∧ m_X7_goesFor (nI k) w = some w' ∧ RT T' w'.1 ∧ IT T' (B + k) ∧ core w' = core w ∧ T'.2.2.1 = T.2.2.1 ∧ T'.1 = T.1 + nI k := by
  have e1 : m_X4_passMonths (nI k) (T, g) = m_X4_passMonths_2 300 (nI k) (nI 0) (T, g) := rfl
  have e2 : m_X7_goesFor (nI k) w = m_X7_goesFor_2 300 (nI k) (nI 0) w := rfl
  have h := months_n k 0 300 300 T g w B (by omega) (by omega) (by omega) hR hI hB
  rw [Nat.zero_add] at h
  rw [e1, e2]
  exact h
theorem own_eq {T : pv_TT} {w : pv_MT} (hR : RT T w.1) (st : Int32) : cntL (fun p => w.1 (7 + p)) st = cntL T.2.2.2.1 st := cntL_cong fun j hj => hR.2.2.2.2.2.1 j hj
theorem bits_own {T : pv_TT} {w : pv_MT} (hR : RT T w.1) (st : Int32) : ∃ c, c ≤ 8 ∧ m_X4_owned st T = some (nI c) ∧ ∀ {β : Type} (k : Int32 → Option β), (Option.bind (m_X7_landsOf st w) fun u => Option.bind (m_X7_bits u) fun u2 => k u2) = k (nI c) := by
  obtain ⟨c, hc, e⟩ := cntL_le T.2.2.2.1 st
  refine ⟨c, hc, by rw [owned_ok, e], fun k => ?_⟩
  rw [landsOf_ok]
  show (Option.bind (m_X7_bits _) fun u2 => k u2) = _
  rw [bits_eq]
  show k (cntL (fun p => w.1 (7 + p)) st) = _
  rw [own_eq hR, e]
theorem sim_months (v0 : Int32) (x : pv_XT) (mm : pv_MT) (hR : Rel x mm) : ∃ (r : Int32) (x2 : pv_XT) (m2 : pv_MT), m_X6_months v0 x = some (r, x2) ∧ m_X7_months v0 mm = some (r, m2) ∧ Rel x2 m2 := by
  show Sim (m_X6_months v0 x) (m_X7_months v0 mm)
  unfold m_X6_months m_X7_months
  rcases win_c v0 1 60 (by omega) (by omega) with ⟨c1, c2⟩ | ⟨n, h1, hn, rfl, c1, c2⟩
  · have c1' : m_X6_isWithin v0 1 60 = 0 := c1
    have c2' : m_X7_in v0.toInt64 1 60 = 0 := c2
    rw [c1', c2', if_pos rfl, if_pos rfl]; exact S_bey hR
  · have c1' : m_X6_isWithin (nI n) 1 60 = 1 := c1
    have c2' : m_X7_in (nI n).toInt64 1 60 = 1 := c2
    obtain ⟨M, hM, eM⟩ := IT_month hR.2.1
    rw [c1', c2', if_neg (show ¬ (1 : Int32) = 0 by decide), if_neg (show ¬ (1 : Int32) = 0 by decide), hR.1.1, eM, nI_add]
    by_cases q : M + n ≤ 9999
    · have q1 : nI (M + n) ≤ 9999 := nI_le (b := 9999) q (by omega)
      obtain ⟨T', g', w', p1, p2, p3, p4, p5, p6, p7⟩ := months_ok x.2.2.2.1 n (by omega) hR.1 (IT_tight hR.2.1 eM) (by omega)
      obtain ⟨c, hc, o1, o2⟩ := bits_own p3 (-1)
      rw [if_pos q1, if_pos q1, p1, p2, Option.bind_some, Option.bind_some, o2, o1]
      exact ⟨_, _, _, rfl, rfl, p3, IT_mono q p4, RC_core (x := (T', x.2.1, x.2.2.1, g', x.2.2.2.2)) p5 hR.2.2⟩
    · have q1 : ¬ nI (M + n) ≤ 9999 := nI_ge (a := 9999) (by omega) (by omega)
      rw [if_neg q1, if_neg q1]; exact S_stat hR
