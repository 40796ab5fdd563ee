/-! CHANGES OF A TABLE AND OF THE REFERENCE'S ROW -/
theorem RT_mix {T : pv_TT} {f : Nat → Int32} (hR : RT T f) (v : Int32) : RT (T.1, v, T.2.2) (upd f 1 v) := by
  obtain ⟨r0, r1, r2, r3, r4, r5, r6, r7⟩ := hR
  exact ⟨(pk_un (by omega)).trans r0, pk_us, (pk_un (by omega)).trans r2, fun s hs => (pk_un (by omega)).trans (r3 s hs), fun s hs => (pk_un (by omega)).trans (r4 s hs), fun s hs => (pk_un (by omega)).trans (r5 s hs), fun s hs => (pk_un (by omega)).trans (r6 s hs), fun s hs => (pk_un (by omega)).trans (r7 s hs)⟩
theorem IT_mix {T : pv_TT} {B k : Nat} (hI : IT T B) (hk : k < 32) (hk2 : k % 2 = 1) : IT (T.1, nI k, T.2.2) B := by
  obtain ⟨i1, i2, i3, i4, i5, i6, i7⟩ := hI
  exact ⟨i1, ⟨k, hk, hk2, rfl⟩, i3, i4, i5, i6, i7⟩
theorem RT_own {T : pv_TT} {f : Nat → Int32} (hR : RT T f) {p : Nat} (hp : p < 8) (v : Int32) : RT (T.1, T.2.1, T.2.2.1, upd T.2.2.2.1 p v, T.2.2.2.2) (upd f (7 + p) v) := by
  obtain ⟨r0, r1, r2, r3, r4, r5, r6, r7⟩ := hR
  refine ⟨(pk_un (by omega)).trans r0, (pk_un (by omega)).trans r1, (pk_un (by omega)).trans r2, fun s hs => (pk_un (by omega)).trans (r3 s hs), fun s hs => (pk_un (by omega)).trans (r4 s hs), fun s hs => ?_, fun s hs => (pk_un (by omega)).trans (r6 s hs), fun s hs => (pk_un (by omega)).trans (r7 s hs)⟩
  show _ = upd T.2.2.2.1 p v s
  by_cases e : s = p
  · subst e; rw [pk_us, pk_us]
  · rw [pk_un e, pk_un (by omega)]; exact r5 s hs
theorem IT_own {T : pv_TT} {B p : Nat} {v : Int32} (hI : IT T B) (hv : v = -1 ∨ v = 0 ∨ v = 1) : IT (T.1, T.2.1, T.2.2.1, upd T.2.2.2.1 p v, T.2.2.2.2) B := by
  obtain ⟨i1, i2, i3, i4, i5, i6, i7⟩ := hI
  refine ⟨i1, i2, i3, fun s hs => ?_, i5, i6, i7⟩
  show upd T.2.2.2.1 p v s = -1 ∨ upd T.2.2.2.1 p v s = 0 ∨ upd T.2.2.2.1 p v s = 1
  by_cases e : s = p
  · subst e; rw [pk_us]; exact hv
  · rw [pk_un e]; exact i4 s hs
theorem RT_pur {T : pv_TT} {f : Nat → Int32} (hR : RT T f) {p : Nat} (hp : p < 2) (v : Int32) : RT (T.1, T.2.1, T.2.2.1, T.2.2.2.1, upd T.2.2.2.2.1 p v, T.2.2.2.2.2) (upd f (5 + p) v) := by
  obtain ⟨r0, r1, r2, r3, r4, r5, r6, r7⟩ := hR
  refine ⟨(pk_un (by omega)).trans r0, (pk_un (by omega)).trans r1, (pk_un (by omega)).trans r2, fun s hs => (pk_un (by omega)).trans (r3 s hs), fun s hs => ?_, fun s hs => (pk_un (by omega)).trans (r5 s hs), fun s hs => (pk_un (by omega)).trans (r6 s hs), fun s hs => (pk_un (by omega)).trans (r7 s hs)⟩
  show _ = upd T.2.2.2.2.1 p v s
  by_cases e : s = p
  · subst e; rw [pk_us, pk_us]
  · rw [pk_un e, pk_un (by omega)]; exact r4 s hs
theorem IT_pur {T : pv_TT} {B p k : Nat} (hI : IT T B) (hk : k ≤ 99999) : IT (T.1, T.2.1, T.2.2.1, T.2.2.2.1, upd T.2.2.2.2.1 p (nI k), T.2.2.2.2.2) B := by
  obtain ⟨i1, i2, i3, i4, i5, i6, i7⟩ := hI
  refine ⟨i1, i2, i3, i4, fun s hs => ?_, i6, i7⟩
  show ∃ g, g ≤ 99999 ∧ upd T.2.2.2.2.1 p (nI k) s = nI g
  by_cases e : s = p
  · subst e; rw [pk_us]; exact ⟨k, hk, rfl⟩
  · rw [pk_un e]; exact i5 s hs
theorem RT_snt {T : pv_TT} {f : Nat → Int32} (hR : RT T f) {p : Nat} (hp : p < 2) (v : Int32) : RT (T.1, T.2.1, T.2.2.1, T.2.2.2.1, T.2.2.2.2.1, upd T.2.2.2.2.2.1 p v, T.2.2.2.2.2.2) (upd f (3 + p) v) := by
  obtain ⟨r0, r1, r2, r3, r4, r5, r6, r7⟩ := hR
  refine ⟨(pk_un (by omega)).trans r0, (pk_un (by omega)).trans r1, (pk_un (by omega)).trans r2, fun s hs => ?_, fun s hs => (pk_un (by omega)).trans (r4 s hs), fun s hs => (pk_un (by omega)).trans (r5 s hs), fun s hs => (pk_un (by omega)).trans (r6 s hs), fun s hs => (pk_un (by omega)).trans (r7 s hs)⟩
  show _ = upd T.2.2.2.2.2.1 p v s
  by_cases e : s = p
  · subst e; rw [pk_us, pk_us]
  · rw [pk_un e, pk_un (by omega)]; exact r3 s hs
theorem IT_snt {T : pv_TT} {B p N : Nat} {v : Int32} (hI : IT T B) (hN : T.2.2.1 = nI N) (hN8 : N ≤ 8) (hv : v = -1 ∨ ∃ e, e < N ∧ v = nI e) : IT (T.1, T.2.1, T.2.2.1, T.2.2.2.1, T.2.2.2.2.1, upd T.2.2.2.2.2.1 p v, T.2.2.2.2.2.2) B := by
  obtain ⟨i1, i2, ⟨N2, hN2, eN2, i3⟩, i4, i5, i6, i7⟩ := hI
  have hNN : N = N2 := nI_inj32 (by omega) (by omega) (hN.symm.trans eN2)
  subst hNN
  refine ⟨i1, i2, ⟨N, hN2, eN2, fun s hs => ?_⟩, i4, i5, i6, i7⟩
  show upd T.2.2.2.2.2.1 p v s = -1 ∨ ∃ e, e < N ∧ upd T.2.2.2.2.2.1 p v s = nI e
  by_cases e : s = p
  · subst e; rw [pk_us]; exact hv
  · rw [pk_un e]; exact i3 s hs
theorem RT_knd {T : pv_TT} {f : Nat → Int32} (hR : RT T f) {p : Nat} (hp : p < 8) (v : Int32) : RT (T.1, T.2.1, T.2.2.1, T.2.2.2.1, T.2.2.2.2.1, T.2.2.2.2.2.1, upd T.2.2.2.2.2.2.1 p v, T.2.2.2.2.2.2.2) (upd f (15 + 2 * p) v) := by
  obtain ⟨r0, r1, r2, r3, r4, r5, r6, r7⟩ := hR
  refine ⟨(pk_un (by omega)).trans r0, (pk_un (by omega)).trans r1, (pk_un (by omega)).trans r2, fun s hs => (pk_un (by omega)).trans (r3 s hs), fun s hs => (pk_un (by omega)).trans (r4 s hs), fun s hs => (pk_un (by omega)).trans (r5 s hs), fun s hs => ?_, fun s hs => (pk_un (by omega)).trans (r7 s hs)⟩
  show _ = upd T.2.2.2.2.2.2.1 p v s
  by_cases e : s = p
  · subst e; rw [pk_us, pk_us]
  · rw [pk_un e, pk_un (by omega)]; exact r6 s hs
theorem IT_knd {T : pv_TT} {B p k : Nat} (hI : IT T B) (hk : k < 6) : IT (T.1, T.2.1, T.2.2.1, T.2.2.2.1, T.2.2.2.2.1, T.2.2.2.2.2.1, upd T.2.2.2.2.2.2.1 p (nI k), T.2.2.2.2.2.2.2) B := by
  obtain ⟨i1, i2, i3, i4, i5, i6, i7⟩ := hI
  refine ⟨i1, i2, i3, i4, i5, fun s hs => ?_, i7⟩
  show ∃ g, g < 6 ∧ upd T.2.2.2.2.2.2.1 p (nI k) s = nI g
  by_cases e : s = p
  · subst e; rw [pk_us]; exact ⟨k, hk, rfl⟩
  · rw [pk_un e]; exact i6 s hs
theorem RT_won {T : pv_TT} {f : Nat → Int32} (hR : RT T f) {p : Nat} (hp : p < 8) (v : Int32) : RT (T.1, T.2.1, T.2.2.1, T.2.2.2.1, T.2.2.2.2.1, T.2.2.2.2.2.1, T.2.2.2.2.2.2.1, upd T.2.2.2.2.2.2.2 p v) (upd f (16 + 2 * p) v) := by
  obtain ⟨r0, r1, r2, r3, r4, r5, r6, r7⟩ := hR
  refine ⟨(pk_un (by omega)).trans r0, (pk_un (by omega)).trans r1, (pk_un (by omega)).trans r2, fun s hs => (pk_un (by omega)).trans (r3 s hs), fun s hs => (pk_un (by omega)).trans (r4 s hs), fun s hs => (pk_un (by omega)).trans (r5 s hs), fun s hs => (pk_un (by omega)).trans (r6 s hs), fun s hs => ?_⟩
  show _ = upd T.2.2.2.2.2.2.2 p v s
  by_cases e : s = p
  · subst e; rw [pk_us, pk_us]
  · rw [pk_un e, pk_un (by omega)]; exact r7 s hs
theorem IT_won {T : pv_TT} {B p k : Nat} (hI : IT T B) (hk : k ≤ 9999) : IT (T.1, T.2.1, T.2.2.1, T.2.2.2.1, T.2.2.2.2.1, T.2.2.2.2.2.1, T.2.2.2.2.2.2.1, upd T.2.2.2.2.2.2.2 p (nI k)) B := by
  obtain ⟨i1, i2, i3, i4, i5, i6, i7⟩ := hI
  refine ⟨i1, i2, i3, i4, i5, i6, fun s hs => ?_⟩
  show ∃ g, g ≤ 9999 ∧ upd T.2.2.2.2.2.2.2 p (nI k) s = nI g
  by_cases e : s = p
  · subst e; rw [pk_us]; exact ⟨k, hk, rfl⟩
  · rw [pk_un e]; exact i7 s hs
/-- a new envoy -/
theorem seat_RT {T : pv_TT} {f : Nat → Int32} {N B k : Nat} (hR : RT T f) (hI : IT T B) (hN : T.2.2.1 = nI N) (hN8 : N < 8) (hk : k < 6) : RT (T.1, T.2.1, nI (N + 1), T.2.2.2.1, T.2.2.2.2.1, T.2.2.2.2.2.1, upd T.2.2.2.2.2.2.1 N (nI k), upd T.2.2.2.2.2.2.2 N 0) (upd (upd (upd f 2 (nI (N + 1))) (15 + 2 * N) (nI k)) (16 + 2 * N) 0) ∧ IT (T.1, T.2.1, nI (N + 1), T.2.2.2.1, T.2.2.2.2.1, T.2.2.2.2.2.1, upd T.2.2.2.2.2.2.1 N (nI k), upd T.2.2.2.2.2.2.2 N 0) B := by
  have h1 : RT (T.1, T.2.1, nI (N + 1), T.2.2.2) (upd f 2 (nI (N + 1))) := by
    obtain ⟨r0, r1, r2, r3, r4, r5, r6, r7⟩ := hR
    exact ⟨(pk_un (by omega)).trans r0, (pk_un (by omega)).trans r1, pk_us, fun s hs => (pk_un (by omega)).trans (r3 s hs), fun s hs => (pk_un (by omega)).trans (r4 s hs), fun s hs => (pk_un (by omega)).trans (r5 s hs), fun s hs => (pk_un (by omega)).trans (r6 s hs), fun s hs => (pk_un (by omega)).trans (r7 s hs)⟩
  have i1 : IT (T.1, T.2.1, nI (N + 1), T.2.2.2) B := by
    obtain ⟨i1, i2, ⟨N2, hN2, eN2, i3⟩, i4, i5, i6, i7⟩ := hI
    have hNN : N = N2 := nI_inj32 (by omega) (by omega) (hN.symm.trans eN2)
    subst hNN
    refine ⟨i1, i2, ⟨N + 1, by omega, rfl, fun s hs => ?_⟩, i4, i5, i6, i7⟩
    rcases i3 s hs with h | ⟨e, he, h⟩
    · exact Or.inl h
    · exact Or.inr ⟨e, by omega, h⟩
  exact ⟨RT_won (RT_knd h1 hN8 (nI k)) hN8 0, IT_won (IT_knd i1 hk) (k := 0) (by omega)⟩
theorem becomes_ok (m : pv_MT) (v : Int32) {j : Nat} (hj : j < 31) : m_X7_becomes (nI j) v m = some (m.1 j, (upd m.1 j v, m.2)) := by
  unfold m_X7_becomes
  rw [gd_nI hj (by omega), gd_nI hj (by omega), nI_clamp (by omega)]
theorem mix_c (x : Int32) : (m_X6_isMix x = 0 ∧ m_X7_isMix x = 0) ∨ ∃ k, k < 32 ∧ k % 2 = 1 ∧ x = nI k ∧ m_X6_isMix x = 1 ∧ m_X7_isMix x = 1 := by
  have e : m_X6_isMix x = m_X7_isMix x := by
    unfold m_X6_isMix m_X7_isMix
    rw [in_eq]
    unfold m_X6_isWithin
    by_cases h : x < 1
    · rw [if_pos h, if_pos h, if_pos rfl]
    · rw [if_neg h, if_neg h]
      by_cases h2 : 31 < x
      · rw [if_pos h2, if_pos h2, if_pos rfl]
      · rw [if_neg h2, if_neg h2, if_neg (show ¬ (1 : Int32) = 0 by decide)]
  rw [← e]
  have e7 : m_X6_isMix x = if m_X6_isWithin x 1 31 = 0 then 0 else if pv_rem x 2 = 1 then 1 else 0 := by rw [e]; unfold m_X7_isMix; rw [in_eq]
  rcases win x (a := 1) (b := 31) (by omega) (by omega) with h | ⟨k, h1, h2, rfl, h⟩
  · have h' : m_X6_isWithin x 1 31 = 0 := h
    rw [e7, if_pos h']; exact Or.inl ⟨rfl, rfl⟩
  · have h' : ¬ m_X6_isWithin (nI k) 1 31 = 0 := fun q => absurd (h.symm.trans q) (by decide)
    rw [e7, if_neg h', lit_rem2 (by omega)]
    rcases (show k % 2 = 0 ∨ k % 2 = 1 by omega) with q | q
    · rw [q, if_neg (by decide)]; exact Or.inl ⟨rfl, rfl⟩
    · rw [q, if_pos (by decide)]; exact Or.inr ⟨k, by omega, q, rfl, rfl, rfl⟩
