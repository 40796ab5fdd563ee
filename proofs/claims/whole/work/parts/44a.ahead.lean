/-! LOOKING AHEAD -/
theorem copyAll_n (f : Nat → Int32) : ∀ (k i n : Nat) (g : Nat → Int32), i + k = 31 → k < n → (∀ j, j < i → g j = f j) → ∃ g', m_X7_copyAll_2 n (nI i) (f, g) = some (f, g') ∧ ∀ j, j < 31 → g' j = f j
  | 0, i, n, g, hi, hn, hg => by
    obtain ⟨n, rfl⟩ : ∃ n', n = n' + 1 := ⟨n - 1, by omega⟩
    have h1 : (31 : Int32) ≤ nI i := nI_le (a := 31) (by omega) (by omega)
    rw [m_X7_copyAll_2_s, if_pos h1]
    exact ⟨g, rfl, fun j hj => hg j (by omega)⟩
  | k + 1, i, n, g, hi, hn, hg => by
    obtain ⟨n, rfl⟩ : ∃ n', n = n' + 1 := ⟨n - 1, by omega⟩
    have h1 : ¬ (31 : Int32) ≤ nI i := nI_ge (b := 31) (by omega) (by omega)
    rw [m_X7_copyAll_2_s, if_neg h1, gd_nI (by omega) (by omega), gd_nI (by omega) (by omega), nI_clamp (by omega), nI_1]
    refine copyAll_n f k (i + 1) n (upd g i (f i)) (by omega) (by omega) fun j hj => ?_
    by_cases e : j = i
    · subst e; rw [pk_us]
    · rw [pk_un e]; exact hg j (by omega)
theorem copyAll_ok (f g : Nat → Int32) : ∃ g', m_X7_copyAll (f, g) = some (f, g') ∧ ∀ j, j < 31 → g' j = f j := by
  have e : m_X7_copyAll (f, g) = m_X7_copyAll_2 300 (nI 0) (f, g) := rfl
  rw [e]
  exact copyAll_n f 31 0 300 g (by omega) (by omega) (fun j hj => by omega)
/-- while the reference thinks: its old row agrees with the table -/
def Th (x : pv_XT) (m : pv_MT) : Prop := RT x.1 m.2.2.1 ∧ IT x.1 9999 ∧ RC x m
def xA (x : pv_XT) (A : pv_TT) (g : pv_GT) : pv_XT := (x.1, x.2.1, A, g, x.2.2.2.2)
theorem Th_core {x : pv_XT} {m m2 : pv_MT} (h : core m2 = core m) (hT : Th x m) : Th x m2 := by
  have e : m2.2.2.1 = m.2.2.1 := congrArg (fun c => c.2.1) h
  exact ⟨by rw [e]; exact hT.1, hT.2.1, RC_core h hT.2.2⟩
theorem thinks_ok {x : pv_XT} {m : pv_MT} (hR : Rel x m) : ∃ m2, m_X7_thinks m = some m2 ∧ Th x m2 ∧ m2.1 = m.1 := by
  obtain ⟨g, e, hg⟩ := copyAll_ok m.1 m.2.2.1
  unfold m_X7_thinks
  rw [e]
  exact ⟨_, rfl, ⟨RT_cong hg hR.1, hR.2.1, hR.2.2⟩, rfl⟩
theorem putsBack_ok {x : pv_XT} {m : pv_MT} (hT : Th x m) : ∃ m2, m_X7_putsBack m = some m2 ∧ Th x m2 ∧ RT x.1 m2.1 ∧ core m2 = core m := by
  obtain ⟨g, e, hg⟩ := copyAll_ok m.2.2.1 m.1
  unfold m_X7_putsBack
  rw [e]
  exact ⟨_, rfl, hT, RT_cong hg hT.1, rfl⟩
theorem Th_Rel {x : pv_XT} {m : pv_MT} (hT : Th x m) (hR : RT x.1 m.1) : Rel x m := ⟨hR, hT.2.1, hT.2.2⟩
theorem cpy_in {α : Type} (f g : Nat → α) {n j : Nat} (h : j < n) : va_cpy f g 0 0 n j = f j := by
  unfold va_cpy
  rw [if_pos ⟨Nat.zero_le _, by omega⟩, Nat.zero_add, Nat.sub_zero]
/-- a table that has become another agrees with what that agrees with -/
def bcm (A T : pv_TT) : pv_TT := (T.1, T.2.1, T.2.2.1, va_cpy T.2.2.2.1 A.2.2.2.1 0 0 8, va_cpy T.2.2.2.2.1 A.2.2.2.2.1 0 0 2, va_cpy T.2.2.2.2.2.1 A.2.2.2.2.2.1 0 0 2, va_cpy T.2.2.2.2.2.2.1 A.2.2.2.2.2.2.1 0 0 8, va_cpy T.2.2.2.2.2.2.2 A.2.2.2.2.2.2.2 0 0 8)
theorem become_eq (A T : pv_TT) : m_X4_become (A, T) = some (bcm A T, T) := rfl
theorem bcm_RT (A : pv_TT) {T : pv_TT} {f : Nat → Int32} (hR : RT T f) : RT (bcm A T) f := by
  obtain ⟨r0, r1, r2, r3, r4, r5, r6, r7⟩ := hR
  exact ⟨r0, r1, r2, fun s hs => (r3 s hs).trans (cpy_in _ _ hs).symm, fun s hs => (r4 s hs).trans (cpy_in _ _ hs).symm, fun s hs => (r5 s hs).trans (cpy_in _ _ hs).symm, fun s hs => (r6 s hs).trans (cpy_in _ _ hs).symm, fun s hs => (r7 s hs).trans (cpy_in _ _ hs).symm⟩
theorem bcm_IT (A : pv_TT) {T : pv_TT} {B : Nat} (hI : IT T B) : IT (bcm A T) B := by
  obtain ⟨i1, i2, ⟨N, hN, eN, i3⟩, i4, i5, i6, i7⟩ := hI
  refine ⟨i1, i2, ⟨N, hN, eN, fun s hs => ?_⟩, fun p hp => ?_, fun s hs => ?_, fun e he => ?_, fun e he => ?_⟩
  · show va_cpy T.2.2.2.2.2.1 A.2.2.2.2.2.1 0 0 2 s = -1 ∨ ∃ e, e < N ∧ va_cpy T.2.2.2.2.2.1 A.2.2.2.2.2.1 0 0 2 s = nI e
    rw [cpy_in _ _ hs]; exact i3 s hs
  · show va_cpy T.2.2.2.1 A.2.2.2.1 0 0 8 p = -1 ∨ va_cpy T.2.2.2.1 A.2.2.2.1 0 0 8 p = 0 ∨ va_cpy T.2.2.2.1 A.2.2.2.1 0 0 8 p = 1
    rw [cpy_in _ _ hp]; exact i4 p hp
  · show ∃ g, g ≤ 99999 ∧ va_cpy T.2.2.2.2.1 A.2.2.2.2.1 0 0 2 s = nI g
    rw [cpy_in _ _ hs]; exact i5 s hs
  · show ∃ k, k < 6 ∧ va_cpy T.2.2.2.2.2.2.1 A.2.2.2.2.2.2.1 0 0 8 e = nI k
    rw [cpy_in _ _ he]; exact i6 e he
  · show ∃ v, v ≤ 9999 ∧ va_cpy T.2.2.2.2.2.2.2 A.2.2.2.2.2.2.2 0 0 8 e = nI v
    rw [cpy_in _ _ he]; exact i7 e he
theorem ahead_ok {x : pv_XT} {m : pv_MT} (hR : RT x.1 m.1) (hI : IT x.1 9999) (n : Nat) (hn : n ≤ 200) :
    ∃ A g m2, m_X6_lookAhead (nI n) x = some (xA x A g) ∧ m_X7_goesFor (nI n) m = some m2 ∧ RT A m2.1 ∧ IT A (9999 + n) ∧ core m2 = core m ∧ A.2.2.1 = x.1.2.2.1 := by
  obtain ⟨A, g, m2, p1, p2, p3, p4, p5, p6, -⟩ := months_ok x.2.2.2.1 n hn (bcm_RT x.2.2.1 hR) (bcm_IT x.2.2.1 hI) (by omega)
  refine ⟨A, g, m2, ?_, p2, p3, p4, p5, p6⟩
  unfold m_X6_lookAhead
  rw [become_eq]
  simp only [Option.bind_some]
  rw [p1]
  rfl
theorem ahead_0 {x : pv_XT} {m : pv_MT} (hR : RT x.1 m.1) (hI : IT x.1 9999) : ∃ A, m_X4_become (x.2.2.1, x.1) = some (A, x.1) ∧ RT A m.1 ∧ IT A 9999 ∧ A.2.2.1 = x.1.2.2.1 :=
  ⟨bcm x.2.2.1 x.1, become_eq _ _, bcm_RT _ hR, bcm_IT _ hI, rfl⟩
theorem bec_k {β : Type} (k : pv_XT → Option β) {x : pv_XT} {A : pv_TT} (h : m_X4_become (x.2.2.1, x.1) = some (A, x.1)) :
    (Option.bind (m_X4_become (x.2.2.1, x.1)) fun u => k (u.2, x.2.1, u.1, x.2.2.2.1, x.2.2.2.2.1, x.2.2.2.2.2.1, x.2.2.2.2.2.2.1, x.2.2.2.2.2.2.2)) = k (xA x A x.2.2.2.1) := by
  rw [h]
  rfl
theorem sim_on (v0 : Int32) (v1 : Int32) (x : pv_XT) (mm : pv_MT) (hR : Rel x mm) : ∃ (r : Int32) (x2 : pv_XT) (m2 : pv_MT), m_X6_on v0 v1 x = some (r, x2) ∧ m_X7_on v0 v1 mm = some (r, m2) ∧ Rel x2 m2 := by
  show Sim (m_X6_on v0 v1 x) (m_X7_on v0 v1 mm)
  unfold m_X6_on m_X7_on
  rcases land_c v0 with ⟨h1, h2⟩ | ⟨p, hp, rfl, h1, h2⟩
  · rw [h1, h2, if_pos rfl]; exact S_bey hR
  · rw [h1, h2, if_neg (by decide), Option.bind_some, if_neg (show ¬ (1 : Int32) = 0 by decide)]
    rcases win_c v1 0 100 (by omega) (by omega) with ⟨c1, c2⟩ | ⟨n, -, hn, rfl, c1, c2⟩
    · have c1' : m_X6_isWithin v1 0 100 = 0 := c1
      have c2' : m_X7_in v1.toInt64 0 100 = 0 := c2
      rw [c1', c2', if_pos rfl, if_pos rfl]; exact S_bey hR
    · have c1' : m_X6_isWithin (nI n) 0 100 = 1 := c1
      have c2' : m_X7_in (nI n).toInt64 0 100 = 1 := c2
      rw [c1', c2', if_neg (show ¬ (1 : Int32) = 0 by decide), if_neg (show ¬ (1 : Int32) = 0 by decide)]
      obtain ⟨m1, t1, t2, t3⟩ := thinks_ok hR
      obtain ⟨A, g, m2, p1, p2, p3, p4, p5, p6⟩ := ahead_ok (x := x) (m := m1) (by rw [t3]; exact hR.1) hR.2.1 n (by omega)
      obtain ⟨m3, b1, b2, b3, b4⟩ := putsBack_ok (Th_core p5 t2)
      rw [t1, p1, Option.bind_some, Option.bind_some, p2, Option.bind_some, b1, Option.bind_some, show (7 : Int32) = nI 7 from rfl, nI_add, gd_nI hp (by omega), gd_nI (by omega) (by omega), nI_clamp (by omega), nI_clamp (by omega)]
      exact ⟨_, _, _, rfl, congrArg some (Prod.ext (p3.2.2.2.2.2.1 p hp) rfl), Th_Rel (x := xA x A g) b2 b3⟩
theorem set_eq {T : pv_TT} {w : pv_MT} (hR : RT T w.1) (st : Int32) : ∃ u, m_X4_ownedSet st T = some u ∧ m_X7_landsOf st w = some u := by
  refine ⟨lnd T.2.2.2.1 st 8, ownedSet_ok T st, ?_⟩
  rw [landsOf_ok]
  exact congrArg some (lnd_cong fun j hj => hR.2.2.2.2.2.1 j hj)
theorem sim_then (v0 : Int32) (v1 : Int32) (v2 : Int32) (x : pv_XT) (mm : pv_MT) (hR : Rel x mm) : ∃ (r : Int32) (x2 : pv_XT) (m2 : pv_MT), m_X6_then v0 v1 v2 x = some (r, x2) ∧ m_X7_then v0 v1 v2 mm = some (r, m2) ∧ Rel x2 m2 := by
  show Sim (m_X6_then v0 v1 v2 x) (m_X7_then v0 v1 v2 mm)
  unfold m_X6_then m_X7_then
  rcases state_c v0 with ⟨h1, h2⟩ | ⟨s, hs, rfl, h1, h2⟩
  · rw [h1, h2, if_pos rfl]; exact S_bey hR
  · rw [h1, h2, if_neg (by decide), Option.bind_some, if_neg (show ¬ (1 : Int32) = 0 by decide)]
    rcases win_c v1 0 100 (by omega) (by omega) with ⟨c1, c2⟩ | ⟨n, -, hn, rfl, c1, c2⟩
    · have c1' : m_X6_isWithin v1 0 100 = 0 := c1
      have c2' : m_X7_in v1.toInt64 0 100 = 0 := c2
      rw [c1', c2', if_pos rfl, if_pos rfl]; exact S_bey hR
    · have c1' : m_X6_isWithin (nI n) 0 100 = 1 := c1
      have c2' : m_X7_in (nI n).toInt64 0 100 = 1 := c2
      rw [c1', c2', if_neg (show ¬ (1 : Int32) = 0 by decide), if_neg (show ¬ (1 : Int32) = 0 by decide), in_eq]
      by_cases q : m_X6_isWithin v2 0 1 = 0
      · rw [if_pos q, if_pos q]; exact S_bey hR
      · obtain ⟨m1, t1, t2, t3⟩ := thinks_ok hR
        obtain ⟨A, g, m2, p1, p2, p3, p4, p5, p6⟩ := ahead_ok (x := x) (m := m1) (by rw [t3]; exact hR.1) hR.2.1 n (by omega)
        obtain ⟨m3, b1, b2, b3, b4⟩ := putsBack_ok (Th_core p5 t2)
        obtain ⟨u, u1, u2⟩ := set_eq p3 (nI s)
        rw [if_neg q, if_neg q, t1, p1, Option.bind_some, Option.bind_some, p2, Option.bind_some]
        unfold m_X7_then_64
        rw [b1]
        by_cases z : v2 = 0
        · rw [if_pos z, if_pos z, u2, show m_X4_ownedSet (nI s) (xA x A g).2.2.1 = some u from u1]
          exact ⟨_, _, _, rfl, rfl, Th_Rel (x := xA x A g) b2 b3⟩
        · rw [if_neg z, if_neg z, show (5 : Int32) = nI 5 from rfl, nI_add, gd_nI hs (by omega), gd_nI (by omega) (by omega), nI_clamp (by omega), nI_clamp (by omega)]
          exact ⟨_, _, _, rfl, congrArg some (Prod.ext (p3.2.2.2.2.1 s hs) rfl), Th_Rel (x := xA x A g) b2 b3⟩
