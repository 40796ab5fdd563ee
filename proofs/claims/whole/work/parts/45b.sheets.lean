/-! SHEETS -/
def xS (x : pv_XT) (SH : Nat → pv_ST) : pv_XT := (x.1, x.2.1, x.2.2.1, x.2.2.2.1, x.2.2.2.2.1, SH, x.2.2.2.2.2.2)
def mS (m : pv_MT) (b z : Nat → Int32) (c : Nat → Int64) : pv_MT := (m.1, m.2.1, m.2.2.1, m.2.2.2.1, m.2.2.2.2.1, m.2.2.2.2.2.1, m.2.2.2.2.2.2.1, m.2.2.2.2.2.2.2.1, m.2.2.2.2.2.2.2.2.1, m.2.2.2.2.2.2.2.2.2.1, m.2.2.2.2.2.2.2.2.2.2.1, m.2.2.2.2.2.2.2.2.2.2.2.1, m.2.2.2.2.2.2.2.2.2.2.2.2.1, m.2.2.2.2.2.2.2.2.2.2.2.2.2.1, b, z, c)
abbrev bOf (m : pv_MT) : Nat → Int32 := m.2.2.2.2.2.2.2.2.2.2.2.2.2.2.1
abbrev zOf (m : pv_MT) : Nat → Int32 := m.2.2.2.2.2.2.2.2.2.2.2.2.2.2.2.1
abbrev cOf (m : pv_MT) : Nat → Int64 := m.2.2.2.2.2.2.2.2.2.2.2.2.2.2.2.2
abbrev shs (x : pv_XT) : Nat → pv_ST := x.2.2.2.2.2.1
theorem Rel_S {x : pv_XT} {m : pv_MT} {SH : Nat → pv_ST} {b z : Nat → Int32} {c : Nat → Int64} (hR : Rel x m) (hS : RS SH b z c) : Rel (xS x SH) (mS m b z c) := ⟨hR.1, hR.2.1, hR.2.2.1, hR.2.2.2.1, hR.2.2.2.2.1, hS⟩
theorem Th_S {x : pv_XT} {m : pv_MT} {SH : Nat → pv_ST} {b z : Nat → Int32} {c : Nat → Int64} (hT : Th x m) (hS : RS SH b z c) : Th (xS x SH) (mS m b z c) := ⟨hT.1, hT.2.1, hT.2.2.1, hT.2.2.2.1, hT.2.2.2.2.1, hS⟩
theorem Rel_RS {x : pv_XT} {m : pv_MT} (hR : Rel x m) : RS (shs x) (bOf m) (zOf m) (cOf m) := hR.2.2.2.2.2
theorem Th_RS {x : pv_XT} {m : pv_MT} (hT : Th x m) : RS (shs x) (bOf m) (zOf m) (cOf m) := hT.2.2.2.2.2
theorem S_findL {x : pv_XT} {m : pv_MT} (hR : Rel x m) {c : Int32} {i : Nat} (hi : i < 7) (hc : (-1000000001) - c = nI i) : Sim (Option.bind (m_X6_finding c x) fun u => some (u.1.toInt64, u.2)) (Option.bind (m_X7_finds c m) fun u => some (u.1.toInt64, u.2)) := by
  obtain ⟨r, x2, m2, e1, e2, h⟩ := S_find hR hi hc
  rw [e1, e2]
  exact ⟨_, _, _, rfl, rfl, h⟩
theorem c_bey : (-1000000001 : Int32) - (-1000000001) = nI 0 := by decide
theorem c_miss : (-1000000001 : Int32) - (-1000000006) = nI 5 := by decide
/-- a sheet that can be used, or why not -/
theorem fit_c {x : pv_XT} {m : pv_MT} (hR : Rel x m) (v : Int32) : (∃ c i, i < 7 ∧ (-1000000001) - c = nI i ∧ ¬ c = 0 ∧ m_X6_unfitSheet v x = some c ∧ m_X7_notThere v m = some c) ∨ ∃ s, s < 4 ∧ v = nI s ∧ m_X6_unfitSheet v x = some 0 ∧ m_X7_notThere v m = some 0 := by
  unfold m_X6_unfitSheet m_X7_notThere
  rcases sheet_c v with ⟨h1, h2⟩ | ⟨s, hs, rfl, h1, h2⟩
  · left
    refine ⟨-1000000001, 0, by omega, c_bey, by decide, ?_, ?_⟩
    · rw [if_pos h1]
    · rw [h2, Option.bind_some, if_pos rfl]
  · obtain ⟨s1, s2, s3, s4⟩ := Rel_RS hR s hs
    rw [h1, h2, if_neg (show ¬ (1 : Int32) = 0 by decide), Option.bind_some, if_neg (show ¬ (1 : Int32) = 0 by decide), gd_nI hs (by omega), gd_nI hs (by omega), nI_clamp (by omega)]
    unfold m_X3_isMissing
    have s1' : (x.2.2.2.2.2.1 s).1 = m.2.2.2.2.2.2.2.2.2.2.2.2.2.2.1 s := s1
    rw [s1']
    by_cases q : m.2.2.2.2.2.2.2.2.2.2.2.2.2.2.1 s = 0
    · left
      rw [if_pos q, if_pos q, if_neg (show ¬ (1 : Int32) = 0 by decide)]
      exact ⟨-1000000006, 5, by omega, c_miss, by decide, rfl, rfl⟩
    · right
      rw [if_neg q, if_neg q, if_pos rfl]
      exact ⟨s, hs, rfl, rfl, rfl⟩
theorem RS_put {SH : Nat → pv_ST} {b z : Nat → Int32} {c : Nat → Int64} (hS : RS SH b z c) {s i : Nat} (hs : s < 4) (hi : i < 40) (v : Int64) : RS (va_up SH s ((SH s).1, (SH s).2.1, vp_updL (SH s).2.2 i v)) b z (vp_updL c (40 * s + i) v) := by
  intro t ht
  obtain ⟨s1, s2, s3, s4⟩ := hS t ht
  by_cases e : t = s
  · subst e
    rw [va_up_self]
    refine ⟨s1, s2, s3, fun k hk => ?_⟩
    show vp_updL (SH t).2.2 i v k = _
    by_cases e2 : k = i
    · subst e2; rw [pk_uLs, pk_uLs]
    · rw [pk_uLn e2, pk_uLn (by omega)]; exact s4 k hk
  · rw [va_up_ne SH _ e]
    refine ⟨s1, s2, s3, fun k hk => ?_⟩
    rw [pk_uLn (by omega)]; exact s4 k hk
theorem sput_ok {S : pv_ST} {n i : Nat} (v : Int64) (hn : n ≤ 40) (hi : i < n) (e : S.2.1 = nI n) : m_X3_put (nI i) v S = some (S.1, S.2.1, vp_updL S.2.2 i (m_X7_cutTo S.1 v)) := by
  have h1 : ¬ nI i < 0 := nI_pos (by omega)
  have h2 : nI i < S.2.1 := by rw [e]; exact nI_lt hi (by omega)
  unfold m_X3_put m_X7_cutTo
  rw [if_neg h1, if_pos h2, gd_nI (by omega) (by omega), gd_nI (by omega) (by omega), gd_nI (by omega) (by omega), nI_clamp (by omega)]
  by_cases q : S.1 = 8
  · rw [if_pos q, if_pos q]
  · rw [if_neg q, if_neg q]
    by_cases q2 : S.1 = 16
    · rw [if_pos q2, if_pos q2]
    · rw [if_neg q2, if_neg q2]
theorem win_sz (v : Int32) {n : Nat} (hn : n < 2 ^ 31) : m_X6_isWithin v 0 (nI n - 1) = 0 ∨ ∃ i, i < n ∧ v = nI i ∧ m_X6_isWithin v 0 (nI n - 1) = 1 := by
  by_cases h0 : n = 0
  · subst h0
    left
    unfold m_X6_isWithin
    by_cases q : v < 0
    · rw [if_pos q]
    · have q1 : nI 0 ≤ v := fa_of_nlt q
      have q2 : nI 0 - 1 < v := by
        rw [fa_lt]; have := (fa_le _ _).mp q1
        have a1 : (nI 0).toInt = 0 := by decide
        have a2 : (nI 0 - 1).toInt = -1 := by decide
        omega
      rw [if_neg q, if_pos q2]
  · obtain ⟨k, rfl⟩ : ∃ k, n = k + 1 := ⟨n - 1, by omega⟩
    have s : nI (k + 1) - 1 = nI k := pk_sub (a := k + 1) (b := 1) (by omega)
    rw [s]
    rcases win v (a := 0) (b := k) (by omega) (by omega) with h | ⟨i, -, hk, rfl, h⟩
    · exact Or.inl h
    · exact Or.inr ⟨i, by omega, rfl, h⟩
theorem sim_write (v0 : Int32) (v1 : Int32) (v2 : Int64) (x : pv_XT) (mm : pv_MT) (hR : Rel x mm) : ∃ (r : Int64) (x2 : pv_XT) (m2 : pv_MT), m_X6_write v0 v1 v2 x = some (r, x2) ∧ m_X7_write v0 v1 v2 mm = some (r, m2) ∧ Rel x2 m2 := by
  show Sim (m_X6_write v0 v1 v2 x) (m_X7_write v0 v1 v2 mm)
  unfold m_X6_write m_X7_write
  rcases fit_c hR v0 with ⟨c, i, hi, hc, h0, h1, h2⟩ | ⟨s, hs, rfl, h1, h2⟩
  · rw [h1, h2, Option.bind_some, Option.bind_some, if_neg h0, if_neg h0]
    unfold m_X7_write_33
    rw [if_neg h0]
    exact S_findL hR hi hc
  · obtain ⟨s1, s2, ⟨n, hn, s3⟩, s4⟩ := Rel_RS hR s hs
    have s1' : (x.2.2.2.2.2.1 s).1 = mm.2.2.2.2.2.2.2.2.2.2.2.2.2.2.1 s := s1
    have s2' : (x.2.2.2.2.2.1 s).2.1 = nI n := s2.trans s3
    have s3' : mm.2.2.2.2.2.2.2.2.2.2.2.2.2.2.2.1 s = nI n := s3
    rw [h1, h2, Option.bind_some, Option.bind_some, if_pos rfl, if_pos rfl, gd_nI hs (by omega), gd_nI hs (by omega), gd_nI hs (by omega), gd_nI hs (by omega), nI_clamp (by omega), s2', s3', in_eq]
    rcases win_sz v1 (n := n) (by omega) with g | ⟨i, hi, rfl, g⟩
    · rw [g, if_pos rfl, if_pos rfl]
      unfold m_X7_write_33
      rw [if_neg (show ¬ (-1000000001 : Int32) = 0 by decide)]
      exact S_findL hR (i := 0) (by omega) rfl
    · rw [g, if_neg (show ¬ (1 : Int32) = 0 by decide), if_neg (show ¬ (1 : Int32) = 0 by decide)]
      unfold m_X7_write_33
      rw [if_pos rfl, show (40 : Int32) = nI 40 from rfl, pk_mul, nI_add, gd_nI (by omega) (by omega), gd_nI (by omega) (by omega), gd_nI hs (by omega), gd_nI (by omega) (by omega), nI_clamp (by omega), nI_clamp (by omega), nI_clamp (by omega), sput_ok v2 hn hi s2', Option.bind_some, ← s1']
      have s4' : mm.2.2.2.2.2.2.2.2.2.2.2.2.2.2.2.2 (40 * s + i) = (x.2.2.2.2.2.1 s).2.2 i := (s4 i (by omega)).symm
      exact ⟨_, _, _, rfl, congrArg some (Prod.ext s4' rfl), Rel_S hR (RS_put (Rel_RS hR) hs (by omega) _)⟩
/-! a sheet made -/
theorem fill_s (n : Nat) (x1 : Int64) (x3 x4 : Int32) (w : pv_AL) : m_J7_fill_d0a16_6 (n + 1) x1 x3 x4 w = (if x4 ≤ x3 then some w else pv_gd x3 40 (m_J7_fill_d0a16_6 n x1 (x3 + 1) x4 (vp_updL w x3.toNatClampNeg x1))) := rfl
theorem fillL : ∀ (k i n : Nat) (w : Nat → Int64), i + k = 40 → k < n → (∀ j, j < i → w j = 0) → ∃ w', m_J7_fill_d0a16_6 n 0 (nI i) 40 w = some w' ∧ ∀ j, j < 40 → w' j = 0
  | 0, i, n, w, hi, hn, hw => by
    obtain ⟨n, rfl⟩ : ∃ n', n = n' + 1 := ⟨n - 1, by omega⟩
    have h1 : (40 : Int32) ≤ nI i := nI_le (a := 40) (by omega) (by omega)
    rw [fill_s, if_pos h1]
    exact ⟨w, rfl, fun j hj => hw j (by omega)⟩
  | k + 1, i, n, w, hi, hn, hw => by
    obtain ⟨n, rfl⟩ : ∃ n', n = n' + 1 := ⟨n - 1, by omega⟩
    have h1 : ¬ (40 : Int32) ≤ nI i := nI_ge (b := 40) (by omega) (by omega)
    rw [fill_s, if_neg h1, gd_nI (by omega) (by omega), nI_clamp (by omega), nI_1]
    refine fillL k (i + 1) n _ (by omega) (by omega) fun j hj => ?_
    by_cases e : j = i
    · subst e; rw [pk_uLs]
    · rw [pk_uLn e]; exact hw j (by omega)
theorem fill_ok (w : Nat → Int64) : ∃ w', m_J7_fill_d0a16 0 w = some w' ∧ ∀ j, j < 40 → w' j = 0 := by
  have e : m_J7_fill_d0a16 0 w = m_J7_fill_d0a16_6 300 0 (nI 0) 40 w := rfl
  rw [e]
  exact fillL 40 0 300 w (by omega) (by omega) (fun j hj => by omega)
theorem zeroL (s : Nat) (hs : s < 4) (m : pv_MT) (b z : Nat → Int32) (c0 : Nat → Int64) : ∀ (k i n : Nat) (c : Nat → Int64), i + k = 40 → k < n → (∀ j, 40 * s ≤ j → j < 40 * s + i → c j = 0) → (∀ j, (j < 40 * s ∨ 40 * s + 40 ≤ j) → c j = c0 j) →
    ∃ c', m_X7_sheet_85 n (nI s) (nI i) (mS m b z c) = some (z s, mS m b z c') ∧ (∀ j, 40 * s ≤ j → j < 40 * s + 40 → c' j = 0) ∧ (∀ j, (j < 40 * s ∨ 40 * s + 40 ≤ j) → c' j = c0 j)
  | 0, i, n, c, hi, hn, h1, h2 => by
    obtain ⟨n, rfl⟩ : ∃ n', n = n' + 1 := ⟨n - 1, by omega⟩
    have q : (40 : Int32) ≤ nI i := nI_le (a := 40) (by omega) (by omega)
    rw [m_X7_sheet_85_s, if_pos q, gd_nI hs (by omega), nI_clamp (by omega)]
    exact ⟨c, rfl, fun j hj hj2 => h1 j hj (by omega), h2⟩
  | k + 1, i, n, c, hi, hn, h1, h2 => by
    obtain ⟨n, rfl⟩ : ∃ n', n = n' + 1 := ⟨n - 1, by omega⟩
    have q : ¬ (40 : Int32) ≤ nI i := nI_ge (b := 40) (by omega) (by omega)
    have e : (40 : Int32) * nI s + nI i = nI (40 * s + i) := by rw [show (40 : Int32) = nI 40 from rfl, pk_mul, nI_add]
    rw [m_X7_sheet_85_s, if_neg q, e, gd_nI (by omega) (by omega), nI_clamp (by omega), nI_1]
    refine zeroL s hs m b z c0 k (i + 1) n (vp_updL c (40 * s + i) 0) (by omega) (by omega) (fun j hj hj2 => ?_) (fun j hj => ?_)
    · by_cases e2 : j = 40 * s + i
      · subst e2; rw [pk_uLs]
      · rw [pk_uLn e2]; exact h1 j hj (by omega)
    · rw [pk_uLn (by omega)]; exact h2 j hj
theorem sheet36 {x : pv_XT} {m : pv_MT} (hR : Rel x m) {s : Nat} (hs : s < 4) (bits v : Int32) : Sim (m_X6_sheet_36 (nI s) bits v x) (m_X7_sheet_36 (nI s) bits v m) := by
  unfold m_X6_sheet_36 m_X7_sheet_36
  by_cases h0 : 0 ≤ v
  · rw [if_pos h0, if_pos h0]
    by_cases h4 : v ≤ 40
    · rw [if_pos h4, if_pos h4, gd_nI hs (by omega), gd_nI hs (by omega), nI_clamp (by omega)]
      obtain ⟨n, hn, ev⟩ : ∃ n, n ≤ 40 ∧ v = nI n := by
        rcases pk_ix v (n := 41) (by omega) with h | h | ⟨j, hj, h⟩
        · exfalso
          have a := (fa_lt v 0).mp h
          have b := (fa_le 0 v).mp h0
          omega
        · exfalso
          have a := (fa_le (nI 41) v).mp h
          have b := (fa_le v 40).mp h4
          have e1 : (nI 41).toInt = 41 := by decide
          have e2 : (40 : Int32).toInt = 40 := by decide
          omega
        · exact ⟨j, by omega, h⟩
      obtain ⟨w', f1, f2⟩ := fill_ok (x.2.2.2.2.2.1 s).2.2
      have main : ∀ y : Int32, (∃ n, n ≤ 40 ∧ y = nI n) → Sim (Option.bind (m_X3_shape_15 y (bits, (x.2.2.2.2.2.1 s).2)) fun u => pv_gd (nI s) 4 (some ((va_up x.2.2.2.2.2.1 s u s).2.1, xS x (va_up x.2.2.2.2.2.1 s u)))) (m_X7_sheet_81 (nI s) (nI s) y (mS m (upd (bOf m) s bits) (zOf m) (cOf m))) := by
        intro y hy
        have g1 : m_X3_shape_15 y (bits, (x.2.2.2.2.2.1 s).2) = some (bits, y, w') := by
          unfold m_X3_shape_15
          show (Option.bind (m_J7_fill_d0a16 0 (x.2.2.2.2.2.1 s).2.2) fun u => some (bits, y, u)) = _
          rw [f1]; rfl
        obtain ⟨c', z1, z2, z3⟩ := zeroL s hs m (upd (bOf m) s bits) (upd (zOf m) s y) (cOf m) 40 0 300 (cOf m) (by omega) (by omega) (fun j hj hj2 => by omega) (fun j _ => rfl)
        have g2 : m_X7_sheet_81 (nI s) (nI s) y (mS m (upd (bOf m) s bits) (zOf m) (cOf m)) = m_X7_sheet_85 300 (nI s) (nI 0) (mS m (upd (bOf m) s bits) (upd (zOf m) s y) (cOf m)) := by
          unfold m_X7_sheet_81
          rw [gd_nI hs (by omega), nI_clamp (by omega)]
          rfl
        rw [g1, g2, z1, pk_us, Option.bind_some, gd_nI hs (by omega)]
        refine ⟨y, xS x (va_up x.2.2.2.2.2.1 s (bits, y, w')), _, congrArg some (Prod.ext (by show (va_up x.2.2.2.2.2.1 s (bits, y, w') s).2.1 = y; rw [va_up_self]) rfl), rfl, Rel_S hR fun t ht => ?_⟩
        obtain ⟨s1, s2, s3, s4⟩ := Rel_RS hR t ht
        by_cases e : t = s
        · subst e
          rw [va_up_self, pk_us, pk_us]
          exact ⟨rfl, rfl, hy, fun k hk => (f2 k hk).trans (z2 _ (by omega) (by omega)).symm⟩
        · rw [va_up_ne _ _ e, pk_un e, pk_un e]
          exact ⟨s1, s2, s3, fun k hk => (s4 k hk).trans (z3 _ (by omega)).symm⟩
      unfold m_X3_shape
      by_cases hb : bits = 0
      · rw [if_pos hb, if_pos hb]
        exact main 0 ⟨0, by omega, rfl⟩
      · rw [if_neg hb, if_neg hb]
        exact main v ⟨n, hn, ev⟩
    · rw [if_neg h4, if_neg h4]; exact S_bey hR
  · rw [if_neg h0, if_neg h0]; exact S_size hR
theorem sim_sheet (v0 : Int32) (v1 : Int32) (v2 : Int32) (x : pv_XT) (mm : pv_MT) (hR : Rel x mm) : ∃ (r : Int32) (x2 : pv_XT) (m2 : pv_MT), m_X6_sheet v0 v1 v2 x = some (r, x2) ∧ m_X7_sheet v0 v1 v2 mm = some (r, m2) ∧ Rel x2 m2 := by
  show Sim (m_X6_sheet v0 v1 v2 x) (m_X7_sheet v0 v1 v2 mm)
  unfold m_X6_sheet m_X7_sheet
  rcases sheet_c v0 with ⟨h1, h2⟩ | ⟨s, hs, rfl, h1, h2⟩
  · rw [h1, h2, if_pos rfl]; exact S_bey hR
  · rw [h1, h2, if_neg (by decide), Option.bind_some, if_neg (show ¬ (1 : Int32) = 0 by decide)]
    by_cases a0 : v1 = 0
    · rw [if_pos a0, if_pos a0]; exact sheet36 hR hs v1 v2
    rw [if_neg a0, if_neg a0]
    by_cases a1 : v1 = 8
    · rw [if_pos a1, if_pos a1]; exact sheet36 hR hs v1 v2
    rw [if_neg a1, if_neg a1]
    by_cases a2 : v1 = 16
    · rw [if_pos a2, if_pos a2]; exact sheet36 hR hs v1 v2
    rw [if_neg a2, if_neg a2]
    by_cases a3 : v1 = 64
    · rw [if_pos a3, if_pos a3]; exact sheet36 hR hs v1 v2
    rw [if_neg a3, if_neg a3]; exact S_bey hR
