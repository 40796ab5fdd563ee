/-! THE RELATION OF THE WHOLE STATES -/
def RK (K : pv_TT) (kp ik : Int32) (kept : Nat → Int32) : Prop := kp = ik ∧ (ik = 0 ∨ ik = 1) ∧ (ik = 1 → RT K kept ∧ IT K 9999)
def RF (f g : Nat → Int32) : Prop := ∀ j, j < 7 → f j = g j
def RP (P : pv_PT) (tape : Nat → Int32) (taped : Int32) : Prop := P.2.1 = taped ∧ (∃ n, n ≤ 120 ∧ taped = nI n) ∧ ∀ j, j < 120 → P.1 j = tape j
def RS (SH : Nat → pv_ST) (b z : Nat → Int32) (c : Nat → Int64) : Prop := ∀ s, s < 4 → (SH s).1 = b s ∧ (SH s).2.1 = z s ∧ (∃ n, n ≤ 40 ∧ z s = nI n) ∧ ∀ k, k < 40 → (SH s).2.2 k = c (40 * s + k)
def RCc (x : pv_XT) (c : (Nat → Int32) × (Nat → Int32) × Int32 × (Nat → Int32) × (Nat → Int32) × Int32 × Int32 × Int32 × Int32 × Int32 × Int32 × (Nat → Int32) × (Nat → Int32) × (Nat → Int64)) : Prop := RK x.2.1 x.2.2.2.2.2.2.2 c.2.2.1 c.1 ∧ RF x.2.2.2.2.2.2.1 c.2.2.2.1 ∧ RP x.2.2.2.2.1 c.2.2.2.2.1 c.2.2.2.2.2.1 ∧ RS x.2.2.2.2.2.1 c.2.2.2.2.2.2.2.2.2.2.2.1 c.2.2.2.2.2.2.2.2.2.2.2.2.1 c.2.2.2.2.2.2.2.2.2.2.2.2.2
def RC (x : pv_XT) (m : pv_MT) : Prop := RCc x (core m)
def Rel (x : pv_XT) (m : pv_MT) : Prop := RT x.1 m.1 ∧ IT x.1 9999 ∧ RC x m
theorem RC_core {x : pv_XT} {m m2 : pv_MT} (h : core m2 = core m) (hR : RC x m) : RC x m2 := by unfold RC; rw [h]; exact hR
def Sim {α : Type} (a : Option (α × pv_XT)) (b : Option (α × pv_MT)) : Prop := ∃ (r : α) (x2 : pv_XT) (m2 : pv_MT), a = some (r, x2) ∧ b = some (r, m2) ∧ Rel x2 m2
theorem RT_cong {T : pv_TT} {f g : Nat → Int32} (h : ∀ j, j < 31 → g j = f j) (hR : RT T f) : RT T g := by
  obtain ⟨r0, r1, r2, r3, r4, r5, r6, r7⟩ := hR
  exact ⟨(h 0 (by omega)).trans r0, (h 1 (by omega)).trans r1, (h 2 (by omega)).trans r2, fun s hs => (h _ (by omega)).trans (r3 s hs), fun s hs => (h _ (by omega)).trans (r4 s hs), fun s hs => (h _ (by omega)).trans (r5 s hs), fun s hs => (h _ (by omega)).trans (r6 s hs), fun s hs => (h _ (by omega)).trans (r7 s hs)⟩
theorem IT_mono {T : pv_TT} {B B2 : Nat} (h : B ≤ B2) (hI : IT T B) : IT T B2 := by
  obtain ⟨⟨M, hM, e⟩, hr⟩ := hI
  exact ⟨⟨M, by omega, e⟩, hr⟩
theorem rel_init (x : pv_XT) (h : pv_iX x) : Rel x pv_m0 := by
  obtain ⟨⟨t1, t2, t3, t4, t5, t6, t7, t8⟩, -, -, ⟨p1, p2⟩, hS, hF, hk⟩ := h
  refine ⟨⟨t1.symm, t2.symm, t3.symm, fun s hs => ?_, fun s hs => ?_, fun s hs => ?_, fun s hs => ?_, fun s hs => ?_⟩, ⟨⟨0, by omega, t1⟩, ⟨5, by omega, by omega, t2⟩, ⟨0, by omega, t3, fun s hs => Or.inl (t6 s hs)⟩, fun p hp => Or.inl (t4 p hp), fun s hs => ⟨50, by omega, t5 s hs⟩, fun e he => ⟨0, by omega, t7 e he⟩, fun e he => ⟨0, by omega, t8 e he⟩⟩, ⟨hk, Or.inl rfl, fun e => absurd e (by decide)⟩, fun j hj => hF j hj, ⟨p1, ⟨0, by omega, rfl⟩, fun j hj => p2 j hj⟩, fun s hs => ⟨(hS s hs).1, (hS s hs).2.1, ⟨0, by omega, rfl⟩, fun k hk2 => (hS s hs).2.2 k hk2⟩⟩
  · rw [t6 s hs]; rcases (show s = 0 ∨ s = 1 by omega) with rfl | rfl <;> rfl
  · rw [t5 s hs]; rcases (show s = 0 ∨ s = 1 by omega) with rfl | rfl <;> rfl
  · rw [t4 s hs]; rcases (show s = 0 ∨ s = 1 ∨ s = 2 ∨ s = 3 ∨ s = 4 ∨ s = 5 ∨ s = 6 ∨ s = 7 by omega) with rfl | rfl | rfl | rfl | rfl | rfl | rfl | rfl <;> rfl
  · rw [t7 s hs]; rcases (show s = 0 ∨ s = 1 ∨ s = 2 ∨ s = 3 ∨ s = 4 ∨ s = 5 ∨ s = 6 ∨ s = 7 by omega) with rfl | rfl | rfl | rfl | rfl | rfl | rfl | rfl <;> rfl
  · rw [t8 s hs]; rcases (show s = 0 ∨ s = 1 ∨ s = 2 ∨ s = 3 ∨ s = 4 ∨ s = 5 ∨ s = 6 ∨ s = 7 by omega) with rfl | rfl | rfl | rfl | rfl | rfl | rfl | rfl <;> rfl
/-! findings -/
theorem bind_eta {α β : Type} (o : Option (α × β)) : (Option.bind o fun u => some (u.1, u.2)) = o := by cases o <;> rfl
theorem S_find {x : pv_XT} {m : pv_MT} (hR : Rel x m) {c : Int32} {i : Nat} (hi : i < 7) (hc : (-1000000001) - c = nI i) : Sim (m_X6_finding c x) (m_X7_finds c m) := by
  obtain ⟨h1, h2, hk, hf, hp, hs⟩ := hR
  have e0 : ¬ nI i < 0 := nI_pos (by omega)
  have e7 : ¬ (7 : Int32) ≤ nI i := nI_ge (b := 7) (by omega) (by omega)
  unfold m_X6_finding m_X7_finds Sim
  rw [hc, if_neg e0, if_neg e7, gd_nI hi (by omega), gd_nI hi (by omega), gd_nI hi (by omega), gd_nI hi (by omega), nI_clamp (by omega)]
  refine ⟨c, _, _, rfl, rfl, h1, h2, hk, fun j hj => ?_, hp, hs⟩
  show upd x.2.2.2.2.2.2.1 i (x.2.2.2.2.2.2.1 i + 1) j = upd m.2.2.2.2.1 i (m.2.2.2.2.1 i + 1) j
  have hfi : x.2.2.2.2.2.2.1 i = m.2.2.2.2.1 i := hf i hi
  by_cases e : j = i
  · subst e; rw [pk_us, pk_us, hfi]
  · rw [pk_un e, pk_un e]; exact hf j hj
theorem S_findb {x : pv_XT} {m : pv_MT} (hR : Rel x m) {c : Int32} {i : Nat} (hi : i < 7) (hc : (-1000000001) - c = nI i) : Sim (Option.bind (m_X6_finding c x) fun u => some (u.1, u.2)) (Option.bind (m_X7_finds c m) fun u => some (u.1, u.2)) := by
  rw [bind_eta, bind_eta]; exact S_find hR hi hc
theorem S_bey {x : pv_XT} {m : pv_MT} (hR : Rel x m) : Sim (Option.bind (m_X6_finding (-1000000001) x) fun u => some (u.1, u.2)) (Option.bind (m_X7_finds (-1000000001) m) fun u => some (u.1, u.2)) := S_findb hR (i := 0) (by omega) rfl
theorem S_full {x : pv_XT} {m : pv_MT} (hR : Rel x m) : Sim (Option.bind (m_X6_finding (-1000000002) x) fun u => some (u.1, u.2)) (Option.bind (m_X7_finds (-1000000002) m) fun u => some (u.1, u.2)) := S_findb hR (i := 1) (by omega) rfl
theorem S_knd {x : pv_XT} {m : pv_MT} (hR : Rel x m) : Sim (Option.bind (m_X6_finding (-1000000003) x) fun u => some (u.1, u.2)) (Option.bind (m_X7_finds (-1000000003) m) fun u => some (u.1, u.2)) := S_findb hR (i := 2) (by omega) rfl
theorem S_none {x : pv_XT} {m : pv_MT} (hR : Rel x m) : Sim (Option.bind (m_X6_finding (-1000000004) x) fun u => some (u.1, u.2)) (Option.bind (m_X7_finds (-1000000004) m) fun u => some (u.1, u.2)) := S_findb hR (i := 3) (by omega) rfl
theorem S_stat {x : pv_XT} {m : pv_MT} (hR : Rel x m) : Sim (Option.bind (m_X6_finding (-1000000005) x) fun u => some (u.1, u.2)) (Option.bind (m_X7_finds (-1000000005) m) fun u => some (u.1, u.2)) := S_findb hR (i := 4) (by omega) rfl
theorem S_miss {x : pv_XT} {m : pv_MT} (hR : Rel x m) : Sim (Option.bind (m_X6_finding (-1000000006) x) fun u => some (u.1, u.2)) (Option.bind (m_X7_finds (-1000000006) m) fun u => some (u.1, u.2)) := S_findb hR (i := 5) (by omega) rfl
theorem S_size {x : pv_XT} {m : pv_MT} (hR : Rel x m) : Sim (Option.bind (m_X6_finding (-1000000007) x) fun u => some (u.1, u.2)) (Option.bind (m_X7_finds (-1000000007) m) fun u => some (u.1, u.2)) := S_findb hR (i := 6) (by omega) rfl
/-! guards -/
theorem lgc_lt (x y : Int64) : lg_cmp x y < 0 ↔ x < y := by
  unfold lg_cmp
  by_cases h : x > y
  · rw [if_pos h]
    have h2 : y.toInt < x.toInt := (fa_lt64 y x).mp h
    rw [fa_lt64]
    exact ⟨fun h3 => absurd h3 (by decide), fun h3 => by omega⟩
  · have h2 : ¬ y.toInt < x.toInt := fun q => h ((fa_lt64 y x).mpr q)
    rw [if_neg h]
    by_cases e : x = y
    · rw [if_pos e, e, fa_lt64]
      exact ⟨fun h3 => absurd h3 (by decide), fun h3 => by omega⟩
    · rw [if_neg e, fa_lt64]
      have h4 : x.toInt ≠ y.toInt := fun q => e ((fa_eq64 x y).mpr q)
      exact ⟨fun _ => by omega, fun _ => by decide⟩
theorem lgc_gt (x y : Int64) : 0 < lg_cmp x y ↔ y < x := by
  unfold lg_cmp
  by_cases h : x > y
  · rw [if_pos h]
    exact ⟨fun _ => h, fun _ => by decide⟩
  · rw [if_neg h]
    by_cases e : x = y
    · rw [if_pos e]
      exact ⟨fun h3 => absurd h3 (by decide), fun h3 => absurd h3 h⟩
    · rw [if_neg e]
      exact ⟨fun h3 => absurd h3 (by decide), fun h3 => absurd h3 h⟩
theorem lgc_eq (x y : Int64) : lg_cmp x y = 0 ↔ x = y := by
  unfold lg_cmp
  by_cases h : x > y
  · rw [if_pos h]
    have h2 : y.toInt < x.toInt := (fa_lt64 y x).mp h
    rw [fa_eq64]
    exact ⟨fun h3 => absurd h3 (by decide), fun h3 => by omega⟩
  · rw [if_neg h]
    by_cases e : x = y
    · rw [if_pos e]; exact ⟨fun _ => e, fun _ => rfl⟩
    · rw [if_neg e]; exact ⟨fun h3 => absurd h3 (by decide), fun h3 => absurd h3 e⟩
theorem in_eq (x a b : Int32) : m_X7_in x.toInt64 a b = m_X6_isWithin x a b := by
  unfold m_X7_in m_X6_isWithin
  by_cases h : x < a
  · have h1 : lg_cmp x.toInt64 a.toInt64 < 0 := (lgc_lt _ _).mpr ((fa_wide_lt x a).mpr h)
    rw [if_pos h, if_pos h1]
  · have h1 : ¬ lg_cmp x.toInt64 a.toInt64 < 0 := fun q => h ((fa_wide_lt x a).mp ((lgc_lt _ _).mp q))
    rw [if_neg h, if_neg h1]
    by_cases h2 : b < x
    · have h3 : 0 < lg_cmp x.toInt64 b.toInt64 := (lgc_gt _ _).mpr ((fa_wide_lt b x).mpr h2)
      rw [if_pos h2, if_pos h3]
    · have h3 : ¬ 0 < lg_cmp x.toInt64 b.toInt64 := fun q => h2 ((fa_wide_lt b x).mp ((lgc_gt _ _).mp q))
      rw [if_neg h2, if_neg h3]
theorem win (x : Int32) {a b : Nat} (ha : a < 2 ^ 31) (hb : b < 2 ^ 31) : m_X6_isWithin x (nI a) (nI b) = 0 ∨ ∃ k, a ≤ k ∧ k ≤ b ∧ x = nI k ∧ m_X6_isWithin x (nI a) (nI b) = 1 := by
  unfold m_X6_isWithin
  by_cases h : x < nI a
  · rw [if_pos h]; exact Or.inl rfl
  · rw [if_neg h]
    by_cases h2 : nI b < x
    · rw [if_pos h2]; exact Or.inl rfl
    · rw [if_neg h2]
      have g1 : ¬ x.toInt < a := fun q => h ((fa_lt x (nI a)).mpr (by rw [nI_toInt ha]; exact q))
      have g2 : ¬ (b : Int) < x.toInt := fun q => h2 ((fa_lt (nI b) x).mpr (by rw [nI_toInt hb]; exact q))
      refine Or.inr ⟨x.toInt.toNat, by omega, by omega, Int32.toInt_inj.mp ?_, rfl⟩
      rw [nI_toInt (by omega)]
      omega
theorem gz_in (x a b : Int32) : pv_gz (m_X7_in x.toInt64 a b) (some (m_X7_in x.toInt64 a b)) = some (m_X6_isWithin x a b) := by
  rw [in_eq]
  have : m_X6_isWithin x a b = 0 ∨ m_X6_isWithin x a b = 1 := by
    unfold m_X6_isWithin
    by_cases h : x < a
    · rw [if_pos h]; exact Or.inl rfl
    · rw [if_neg h]
      by_cases h2 : b < x
      · rw [if_pos h2]; exact Or.inl rfl
      · rw [if_neg h2]; exact Or.inr rfl
  unfold pv_gz
  rw [if_pos this]
theorem lt_succ_iff (x : Int32) (n : Nat) (hn : n + 1 < 2 ^ 31) : nI (n + 1) ≤ x ↔ nI n < x := by
  rw [fa_le, fa_lt, nI_toInt hn, nI_toInt (by omega)]; omega
theorem half_open (x : Int32) (n : Nat) (hn : n + 1 < 2 ^ 31) : (if x < 0 then (0 : Int32) else if nI (n + 1) ≤ x then 0 else 1) = m_X6_isWithin x 0 (nI n) := by
  unfold m_X6_isWithin
  by_cases h : nI n < x
  · rw [if_pos h, if_pos ((lt_succ_iff x n hn).mpr h)]
  · rw [if_neg h, if_neg (fun q => h ((lt_succ_iff x n hn).mp q))]
theorem prov_eq (x : Int32) : m_X6_isProvince x = m_X6_isWithin x 0 7 := half_open x 7 (by omega)
theorem kind_eq (x : Int32) : m_X6_isKind x = m_X6_isWithin x 0 5 := half_open x 5 (by omega)
theorem sht_eq (x : Int32) : m_X6_isSheet x = m_X6_isWithin x 0 3 := half_open x 3 (by omega)
theorem stt_eq (x : Int32) : m_X6_isState x = m_X6_isWithin x 0 1 := by
  unfold m_X6_isState
  rcases win x (a := 0) (b := 1) (by omega) (by omega) with h | ⟨k, -, hk, rfl, h⟩
  · have h0 : ¬ x = 0 := fun e => by subst e; exact absurd h (by decide)
    have h1 : ¬ x = 1 := fun e => by subst e; exact absurd h (by decide)
    rw [if_neg h0, if_neg h1]; exact h.symm
  · rcases (show k = 0 ∨ k = 1 by omega) with rfl | rfl <;> decide
theorem land_c (x : Int32) : (m_X6_isProvince x = 0 ∧ m_X7_isLand x = some 0) ∨ ∃ k, k < 8 ∧ x = nI k ∧ m_X6_isProvince x = 1 ∧ m_X7_isLand x = some 1 := by
  have e : m_X7_isLand x = some (m_X6_isWithin x 0 7) := gz_in x 0 7
  rw [prov_eq, e]
  rcases win x (a := 0) (b := 7) (by omega) (by omega) with h | ⟨k, -, hk, rfl, h⟩
  · exact Or.inl ⟨h, congrArg some h⟩
  · exact Or.inr ⟨k, by omega, rfl, h, congrArg some h⟩
theorem state_c (x : Int32) : (m_X6_isState x = 0 ∧ m_X7_isState x = some 0) ∨ ∃ k, k < 2 ∧ x = nI k ∧ m_X6_isState x = 1 ∧ m_X7_isState x = some 1 := by
  have e : m_X7_isState x = some (m_X6_isWithin x 0 1) := gz_in x 0 1
  rw [stt_eq, e]
  rcases win x (a := 0) (b := 1) (by omega) (by omega) with h | ⟨k, -, hk, rfl, h⟩
  · exact Or.inl ⟨h, congrArg some h⟩
  · exact Or.inr ⟨k, by omega, rfl, h, congrArg some h⟩
theorem sheet_c (x : Int32) : (m_X6_isSheet x = 0 ∧ m_X7_isSheet x = some 0) ∨ ∃ k, k < 4 ∧ x = nI k ∧ m_X6_isSheet x = 1 ∧ m_X7_isSheet x = some 1 := by
  have e : m_X7_isSheet x = some (m_X6_isWithin x 0 3) := gz_in x 0 3
  rw [sht_eq, e]
  rcases win x (a := 0) (b := 3) (by omega) (by omega) with h | ⟨k, -, hk, rfl, h⟩
  · exact Or.inl ⟨h, congrArg some h⟩
  · exact Or.inr ⟨k, by omega, rfl, h, congrArg some h⟩
theorem kind_c (x : Int32) : (m_X6_isKind x = 0 ∧ m_X7_in x.toInt64 0 5 = 0) ∨ ∃ k, k < 6 ∧ x = nI k ∧ m_X6_isKind x = 1 ∧ m_X7_in x.toInt64 0 5 = 1 := by
  rw [kind_eq, in_eq]
  rcases win x (a := 0) (b := 5) (by omega) (by omega) with h | ⟨k, -, hk, rfl, h⟩
  · exact Or.inl ⟨h, h⟩
  · exact Or.inr ⟨k, by omega, rfl, h, h⟩
theorem win_c (x : Int32) (a b : Nat) (ha : a < 2 ^ 31) (hb : b < 2 ^ 31) : (m_X6_isWithin x (nI a) (nI b) = 0 ∧ m_X7_in x.toInt64 (nI a) (nI b) = 0) ∨ ∃ k, a ≤ k ∧ k ≤ b ∧ x = nI k ∧ m_X6_isWithin x (nI a) (nI b) = 1 ∧ m_X7_in x.toInt64 (nI a) (nI b) = 1 := by
  rw [in_eq]
  rcases win x ha hb with h | ⟨k, h1, h2, rfl, h⟩
  · exact Or.inl ⟨h, h⟩
  · exact Or.inr ⟨k, h1, h2, rfl, h, h⟩
theorem nob_c (x : Int32) : (m_X6_isStateOrNobody x = 0 ∧ m_X7_in x.toInt64 (-1) 1 = 0) ∨ ((x = -1 ∨ x = 0 ∨ x = 1) ∧ m_X6_isStateOrNobody x = 1 ∧ m_X7_in x.toInt64 (-1) 1 = 1) := by
  have e : m_X6_isStateOrNobody x = m_X6_isWithin x (-1) 1 := rfl
  rw [in_eq, e]
  unfold m_X6_isWithin
  by_cases h : x < -1
  · rw [if_pos h]; exact Or.inl ⟨rfl, rfl⟩
  · rw [if_neg h]
    by_cases h2 : 1 < x
    · rw [if_pos h2]; exact Or.inl ⟨rfl, rfl⟩
    · rw [if_neg h2]
      refine Or.inr ⟨?_, rfl, rfl⟩
      rw [fa_eq, fa_eq, fa_eq]
      have g1 : ¬ x.toInt < -1 := fun q => h ((fa_lt x (-1)).mpr q)
      have g2 : ¬ 1 < x.toInt := fun q => h2 ((fa_lt 1 x).mpr q)
      show x.toInt = -1 ∨ x.toInt = 0 ∨ x.toInt = 1
      omega
theorem envoy_c {x : pv_XT} {m : pv_MT} (hR : Rel x m) (v : Int32) : (m_X6_isEnvoy v x = 0 ∧ m_X7_isEnvoy v m = some 0) ∨ ∃ k N, k < N ∧ N ≤ 8 ∧ x.1.2.2.1 = nI N ∧ v = nI k ∧ m_X6_isEnvoy v x = 1 ∧ m_X7_isEnvoy v m = some 1 := by
  obtain ⟨h1, h2, -⟩ := hR
  obtain ⟨-, -, ⟨N, hN, eN, -⟩, -⟩ := h2
  have e2 : m.1 2 = nI N := h1.2.2.1.trans eN
  have e : m_X7_isEnvoy v m = some (m_X6_isWithin v 0 (m.1 2 - 1)) := gz_in v 0 (m.1 2 - 1)
  have e6 : m_X6_isEnvoy v x = if v < 0 then 0 else if nI N ≤ v then 0 else 1 := by unfold m_X6_isEnvoy; rw [eN]
  rw [e, e6, e2]
  by_cases h0 : N = 0
  · subst h0
    left
    unfold m_X6_isWithin
    by_cases q : v < 0
    · rw [if_pos q, if_pos q]; exact ⟨rfl, rfl⟩
    · have q1 : nI 0 ≤ v := fa_of_nlt q
      have q2 : nI 0 - 1 < v := by
        rw [fa_lt]; have := (fa_le _ _).mp q1
        have a1 : (nI 0).toInt = 0 := by decide
        have a2 : (nI 0 - 1).toInt = -1 := by decide
        omega
      rw [if_neg q, if_neg q, if_pos q1, if_pos q2]; exact ⟨rfl, rfl⟩
  · obtain ⟨n, rfl⟩ : ∃ n, N = n + 1 := ⟨N - 1, by omega⟩
    have s : nI (n + 1) - 1 = nI n := pk_sub (a := n + 1) (b := 1) (by omega)
    rw [half_open v n (by omega), s]
    rcases win v (a := 0) (b := n) (by omega) (by omega) with h | ⟨k, -, hk, rfl, h⟩
    · exact Or.inl ⟨h, congrArg some h⟩
    · exact Or.inr ⟨k, n + 1, by omega, hN, eN, rfl, h, congrArg some h⟩
