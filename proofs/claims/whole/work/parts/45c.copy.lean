/-! NUMBERS COPIED FROM SHEET TO SHEET; PROVINCES LAID -/
theorem sub_I {a f : Nat} (ha : a < 2 ^ 31) (hf : f < 2 ^ 31) : (nI a - nI f).toInt = (a : Int) - f := by
  rw [Int32.toInt_sub, nI_toInt ha, nI_toInt hf]
  exact Int.bmod_eq_of_le (by omega) (by omega)
theorem has_c {S : pv_ST} {a : Nat} (ha : a ≤ 40) (e : S.2.1 = nI a) (p n : Int32) : (m_X3_has p n S = 0 ∧ (p < 0 ∨ n < 0 ∨ nI a - p < n)) ∨ ∃ f k, p = nI f ∧ n = nI k ∧ f + k ≤ a ∧ m_X3_has p n S = 1 ∧ ¬ p < 0 ∧ ¬ n < 0 ∧ ¬ nI a - p < n := by
  unfold m_X3_has
  rw [e]
  by_cases h1 : p < 0
  · rw [if_pos h1]; exact Or.inl ⟨rfl, Or.inl h1⟩
  rw [if_neg h1]
  by_cases h2 : n < 0
  · rw [if_pos h2]; exact Or.inl ⟨rfl, Or.inr (Or.inl h2)⟩
  rw [if_neg h2]
  obtain ⟨f, hf, rfl⟩ := nI_of h1
  obtain ⟨k, hk, rfl⟩ := nI_of h2
  have c1 : nI a < nI f ↔ a < f := nI_ltI (by omega) hf
  have c2 : nI a - nI f < nI k ↔ (a : Int) - f < k := by rw [fa_lt, sub_I (by omega) hf, nI_toInt hk]
  by_cases h3 : a < f
  · rw [if_pos (c1.mpr h3)]; exact Or.inl ⟨rfl, Or.inr (Or.inr (c2.mpr (by omega)))⟩
  rw [if_neg (fun q => h3 (c1.mp q))]
  by_cases h4 : (a : Int) - f < k
  · rw [if_pos (c2.mpr h4)]; exact Or.inl ⟨rfl, Or.inr (Or.inr (c2.mpr h4))⟩
  · have h5 : ¬ nI a - nI f < nI k := fun q => h4 (c2.mp q)
    rw [if_neg h5]
    exact Or.inr ⟨f, k, rfl, rfl, by omega, rfl, h1, h2, h5⟩
def cpW (c : Nat → Int64) (S D lo hi : Nat) : Nat → Int64 := fun j => if D + lo ≤ j ∧ j < D + hi then c (S + (j - D)) else c j
theorem cpW_0 (c : Nat → Int64) (S D i : Nat) : cpW c S D i i = c := funext fun j => if_neg (fun q => by omega)
theorem cpW_out {c : Nat → Int64} {S D lo hi j : Nat} (h : ¬ (D + lo ≤ j ∧ j < D + hi)) : cpW c S D lo hi j = c j := if_neg h
theorem cpW_up (c : Nat → Int64) {S D i : Nat} (h : ¬ (D ≤ S + i ∧ S + i < D + i)) : vp_updL (cpW c S D 0 i) (D + i) (cpW c S D 0 i (S + i)) = cpW c S D 0 (i + 1) := by
  funext j
  rw [cpW_out (j := S + i) (by omega)]
  by_cases e : j = D + i
  · subst e
    rw [pk_uLs]
    unfold cpW
    rw [if_pos (by omega)]
    congr 1
    omega
  · rw [pk_uLn e]
    unfold cpW
    by_cases q : D + 0 ≤ j ∧ j < D + i
    · rw [if_pos q, if_pos (by omega)]
    · rw [if_neg q, if_neg (by omega)]
theorem cpW_dn (c : Nat → Int64) {S D n q : Nat} (hq : q < n) (h : ¬ (D + (q + 1) ≤ S + q ∧ S + q < D + n)) : vp_updL (cpW c S D (q + 1) n) (D + q) (cpW c S D (q + 1) n (S + q)) = cpW c S D q n := by
  funext j
  rw [cpW_out (j := S + q) h]
  by_cases e : j = D + q
  · subst e
    rw [pk_uLs]
    unfold cpW
    rw [if_pos (by omega)]
    congr 1
    omega
  · rw [pk_uLn e]
    unfold cpW
    by_cases z : D + (q + 1) ≤ j ∧ j < D + n
    · rw [if_pos z, if_pos (by omega)]
    · rw [if_neg z, if_neg (by omega)]
theorem cp53 (k28 : Int32 → Int32 → Int32 → Int32 → Int32 → Int32 → pv_MT → Option (Int32 × pv_MT)) {s f t d y : Nat} (x5 x7 : Int32) (m : pv_MT) (b z : Nat → Int32) (c : Nat → Int64) (h1 : 40 * s + f + y < 160) (h2 : 40 * t + d + y < 160) :
    m_X7_copy_53 k28 (nI s) (nI f) (nI t) (nI d) x5 x7 (nI y) (mS m b z c) = k28 (nI s) (nI f) (nI t) (nI d) x5 (x7 + 1) (mS m b z (vp_updL c (40 * t + d + y) (c (40 * s + f + y)))) := by
  have e1 : (40 : Int32) * nI s + nI f + nI y = nI (40 * s + f + y) := by rw [show (40 : Int32) = nI 40 from rfl, pk_mul, nI_add, nI_add]
  have e2 : (40 : Int32) * nI t + nI d + nI y = nI (40 * t + d + y) := by rw [show (40 : Int32) = nI 40 from rfl, pk_mul, nI_add, nI_add]
  unfold m_X7_copy_53
  rw [e1, e2, gd_nI h1 (by omega), gd_nI h2 (by omega), nI_clamp (by omega), nI_clamp (by omega)]
  rfl
theorem cpUp (s f t d n : Nat) (hs : s < 4) (ht : t < 4) (hf : f + n ≤ 40) (hd : d + n ≤ 40) (hdf : d ≤ f) (m : pv_MT) (b z : Nat → Int32) (c : Nat → Int64) : ∀ (k i u : Nat), i + k = n → k < u →
    m_X7_copy_28 u (nI s) (nI f) (nI t) (nI d) (nI n) (nI i) (mS m b z (cpW c (40 * s + f) (40 * t + d) 0 i)) = some (nI n, mS m b z (cpW c (40 * s + f) (40 * t + d) 0 n))
  | 0, i, u, hi, hu => by
    obtain ⟨u, rfl⟩ : ∃ n', u = n' + 1 := ⟨u - 1, by omega⟩
    have h1 : nI n ≤ nI i := nI_le (by omega) (by omega)
    have e : i = n := by omega
    rw [m_X7_copy_28_s, if_pos h1, e]
  | k + 1, i, u, hi, hu => by
    obtain ⟨u, rfl⟩ : ∃ n', u = n' + 1 := ⟨u - 1, by omega⟩
    have h1 : ¬ nI n ≤ nI i := nI_ge (by omega) (by omega)
    have h2 : nI d ≤ nI f := nI_le hdf (by omega)
    rw [m_X7_copy_28_s, if_neg h1, if_pos h2, cp53 _ _ _ _ _ _ _ (by omega) (by omega), cpW_up c (by omega), nI_1]
    exact cpUp s f t d n hs ht hf hd hdf m b z c k (i + 1) u (by omega) (by omega)
theorem cpDn (s f t d n : Nat) (hs : s < 4) (ht : t < 4) (hf : f + n ≤ 40) (hd : d + n ≤ 40) (hdf : f < d) (m : pv_MT) (b z : Nat → Int32) (c : Nat → Int64) : ∀ (k i u : Nat), i + k = n → k < u →
    m_X7_copy_28 u (nI s) (nI f) (nI t) (nI d) (nI n) (nI i) (mS m b z (cpW c (40 * s + f) (40 * t + d) k n)) = some (nI n, mS m b z (cpW c (40 * s + f) (40 * t + d) 0 n))
  | 0, i, u, hi, hu => by
    obtain ⟨u, rfl⟩ : ∃ n', u = n' + 1 := ⟨u - 1, by omega⟩
    have h1 : nI n ≤ nI i := nI_le (by omega) (by omega)
    rw [m_X7_copy_28_s, if_pos h1]
  | k + 1, i, u, hi, hu => by
    obtain ⟨u, rfl⟩ : ∃ n', u = n' + 1 := ⟨u - 1, by omega⟩
    have h1 : ¬ nI n ≤ nI i := nI_ge (by omega) (by omega)
    have h2 : ¬ nI d ≤ nI f := nI_ge hdf (by omega)
    have e : nI n - 1 - nI i = nI k := by
      rw [show nI n - 1 = nI (n - 1) from pk_sub (a := n) (b := 1) (by omega), pk_sub (by omega)]
      congr 1; omega
    rw [m_X7_copy_28_s, if_neg h1, if_neg h2, e, cp53 _ _ _ _ _ _ _ (by omega) (by omega), cpW_dn c (by omega) (by omega), nI_1]
    exact cpDn s f t d n hs ht hf hd hdf m b z c k (i + 1) u (by omega) (by omega)
theorem RS_cpy {SH : Nat → pv_ST} {b z : Nat → Int32} {c : Nat → Int64} (hS : RS SH b z c) {s f t d n : Nat} (hs : s < 4) (ht : t < 4) (hf : f + n ≤ 40) (hd : d + n ≤ 40) : RS (va_up SH t ((SH t).1, (SH t).2.1, va_cpy (SH s).2.2 (SH t).2.2 f d n)) b z (cpW c (40 * s + f) (40 * t + d) 0 n) := by
  intro r hr
  obtain ⟨s1, s2, s3, s4⟩ := hS r hr
  obtain ⟨-, -, -, z4⟩ := hS s hs
  by_cases e : r = t
  · subst e
    rw [va_up_self]
    refine ⟨s1, s2, s3, fun k hk => ?_⟩
    show va_cpy (SH s).2.2 (SH r).2.2 f d n k = _
    by_cases q : d ≤ k ∧ k < d + n
    · rw [pk_cpy_in q.1 q.2, z4 _ (by omega)]
      unfold cpW
      rw [if_pos (by omega)]
      congr 1; omega
    · rw [pk_cpy_out (by omega), cpW_out (by omega)]; exact s4 k hk
  · rw [va_up_ne SH _ e]
    refine ⟨s1, s2, s3, fun k hk => ?_⟩
    rw [cpW_out (by omega)]; exact s4 k hk
theorem sim_copy (v0 : Int32) (v1 : Int32) (v2 : Int32) (v3 : Int32) (v4 : Int32) (x : pv_XT) (mm : pv_MT) (hR : Rel x mm) : ∃ (r : Int32) (x2 : pv_XT) (m2 : pv_MT), m_X6_copy v0 v1 v2 v3 v4 x = some (r, x2) ∧ m_X7_copy v0 v1 v2 v3 v4 mm = some (r, m2) ∧ Rel x2 m2 := by
  show Sim (m_X6_copy v0 v1 v2 v3 v4 x) (m_X7_copy v0 v1 v2 v3 v4 mm)
  unfold m_X6_copy m_X7_copy m_X7_notCopied
  rcases sheet_c v0 with ⟨h1, h2⟩ | ⟨s, hs, rfl, h1, h2⟩
  · rw [h1, h2, if_pos rfl, Option.bind_some, if_pos rfl, Option.bind_some, if_neg (show ¬ (-1000000001 : Int32) = 0 by decide)]; exact S_bey hR
  rw [h1, h2, if_neg (show ¬ (1 : Int32) = 0 by decide), Option.bind_some, if_neg (show ¬ (1 : Int32) = 0 by decide)]
  rcases sheet_c v2 with ⟨k1, k2⟩ | ⟨t, ht, rfl, k1, k2⟩
  · rw [k1, k2, if_pos rfl, Option.bind_some, if_pos rfl, Option.bind_some, if_neg (show ¬ (-1000000001 : Int32) = 0 by decide)]; exact S_bey hR
  rw [k1, k2, if_neg (show ¬ (1 : Int32) = 0 by decide), Option.bind_some, if_neg (show ¬ (1 : Int32) = 0 by decide)]
  obtain ⟨s1, s2, ⟨a, ha, s3⟩, s4⟩ := Rel_RS hR s hs
  obtain ⟨t1, t2, ⟨b, hb, t3⟩, t4⟩ := Rel_RS hR t ht
  have s1' : (x.2.2.2.2.2.1 s).1 = mm.2.2.2.2.2.2.2.2.2.2.2.2.2.2.1 s := s1
  have t1' : (x.2.2.2.2.2.1 t).1 = mm.2.2.2.2.2.2.2.2.2.2.2.2.2.2.1 t := t1
  have s2' : (x.2.2.2.2.2.1 s).2.1 = nI a := s2.trans s3
  have t2' : (x.2.2.2.2.2.1 t).2.1 = nI b := t2.trans t3
  have s3' : mm.2.2.2.2.2.2.2.2.2.2.2.2.2.2.2.1 s = nI a := s3
  have t3' : mm.2.2.2.2.2.2.2.2.2.2.2.2.2.2.2.1 t = nI b := t3
  have gs : ∀ {α : Type} (k : Option α), pv_gd (nI s) 4 k = k := fun k => gd_nI hs (by omega) k
  have gt : ∀ {α : Type} (k : Option α), pv_gd (nI t) 4 k = k := fun k => gd_nI ht (by omega) k
  have cs : (nI s).toNatClampNeg = s := nI_clamp (by omega)
  have ct : (nI t).toNatClampNeg = t := nI_clamp (by omega)
  simp only [gs, gt, cs, ct]
  unfold m_X7_notCopied_101 m_X7_notCopied_102
  rw [s3', t3']
  unfold m_X3_isMissing
  rw [← s1', ← t1']
  by_cases q1 : (x.2.2.2.2.2.1 s).1 = 0
  · rw [if_pos q1, if_pos q1, if_neg (show ¬ (1 : Int32) = 0 by decide), Option.bind_some, if_neg (show ¬ (-1000000006 : Int32) = 0 by decide)]; exact S_miss hR
  rw [if_neg q1, if_neg q1, if_pos rfl]
  by_cases q2 : (x.2.2.2.2.2.1 t).1 = 0
  · rw [if_pos q2, if_pos q2, if_neg (show ¬ (1 : Int32) = 0 by decide), Option.bind_some, if_neg (show ¬ (-1000000006 : Int32) = 0 by decide)]; exact S_miss hR
  rw [if_neg q2, if_neg q2, if_pos rfl]
  by_cases q3 : (x.2.2.2.2.2.1 s).1 = (x.2.2.2.2.2.1 t).1
  rotate_left
  · rw [if_neg q3, if_neg q3, Option.bind_some, if_neg (show ¬ (-1000000003 : Int32) = 0 by decide)]; exact S_knd hR
  rw [if_pos q3, if_pos q3]
  have bad : ∀ o : Option Int32, o = some (-1000000001) → Sim (m_X6_copy_111 x) (Option.bind o fun u => if u = 0 then m_X7_copy_28 300 (nI s) v1 (nI t) v3 v4 0 mm else Option.bind (m_X7_finds u mm) fun u_7 => some (u_7.1, u_7.2)) := by
    intro o ho
    rw [ho, Option.bind_some, if_neg (show ¬ (-1000000001 : Int32) = 0 by decide)]; exact S_bey hR
  rcases has_c ha s2' v1 v4 with ⟨g, gg⟩ | ⟨f, n, rfl, rfl, hf, g, n1, n2, n3⟩
  · rw [g, if_pos rfl]
    refine bad _ ?_
    by_cases w1 : v4 < 0
    · rw [if_pos w1, if_pos rfl]
    rw [if_neg w1]
    by_cases w2 : v1 < 0
    · rw [if_pos w2, if_pos rfl]
    rw [if_neg w2]
    by_cases w3 : v3 < 0
    · rw [if_pos w3, if_pos rfl]
    rw [if_neg w3]
    have w4 : nI a - v1 < v4 := by
      rcases gg with h | h | h
      · exact absurd h w2
      · exact absurd h w1
      · exact h
    rw [if_pos w4, if_pos rfl]
  rw [g, if_neg (show ¬ (1 : Int32) = 0 by decide), if_neg n2, if_neg n1, if_neg n3]
  rcases has_c hb t2' v3 (nI n) with ⟨g2, gg⟩ | ⟨d, n', rfl, en, hd, g2, m1, m2, m3⟩
  · rw [g2, if_pos rfl]
    refine bad _ ?_
    by_cases w3 : v3 < 0
    · rw [if_pos w3, if_pos rfl]
    rw [if_neg w3]
    have w4 : nI b - v3 < nI n := by
      rcases gg with h | h | h
      · exact absurd h w3
      · exact absurd h n2
      · exact h
    rw [if_pos w4, if_pos rfl]
  have hnn : n = n' := nI_inj32 (by omega) (by omega) en
  subst hnn
  rw [g2, if_neg (show ¬ (1 : Int32) = 0 by decide), if_neg m1, if_neg m3, if_neg (show ¬ (1 : Int32) = 0 by decide), Option.bind_some, if_pos rfl]
  have gc : pv_gc (nI f) (nI d) (nI n) 40 40 (some (nI n, (x.1, x.2.1, x.2.2.1, x.2.2.2.1, x.2.2.2.2.1, va_up x.2.2.2.2.2.1 t ((x.2.2.2.2.2.1 t).1, (x.2.2.2.2.2.1 t).2.1, va_cpy (x.2.2.2.2.2.1 s).2.2 (x.2.2.2.2.2.1 t).2.2 (nI f).toNatClampNeg (nI d).toNatClampNeg (nI n).toNatClampNeg), x.2.2.2.2.2.2.1, x.2.2.2.2.2.2.2))) = some (nI n, xS x (va_up (shs x) t ((shs x t).1, (shs x t).2.1, va_cpy (shs x s).2.2 (shs x t).2.2 f d n))) := by
    unfold pv_gc
    rw [nI_clamp (show f < 2 ^ 31 by omega), nI_clamp (show d < 2 ^ 31 by omega), nI_clamp (show n < 2 ^ 31 by omega), if_pos ⟨n1, m1, n2, by omega, by omega⟩]
    rfl
  have em : mm = mS mm (bOf mm) (zOf mm) (cpW (cOf mm) (40 * s + f) (40 * t + d) 0 0) := by rw [cpW_0]; rfl
  have em2 : mm = mS mm (bOf mm) (zOf mm) (cpW (cOf mm) (40 * s + f) (40 * t + d) n n) := by rw [cpW_0]; rfl
  have cp : m_X7_copy_28 300 (nI s) (nI f) (nI t) (nI d) (nI n) 0 mm = some (nI n, mS mm (bOf mm) (zOf mm) (cpW (cOf mm) (40 * s + f) (40 * t + d) 0 n)) := by
    have e0 : m_X7_copy_28 300 (nI s) (nI f) (nI t) (nI d) (nI n) 0 mm = m_X7_copy_28 300 (nI s) (nI f) (nI t) (nI d) (nI n) (nI 0) mm := rfl
    rw [e0]
    by_cases q : d ≤ f
    · have h := cpUp s f t d n hs ht (by omega) (by omega) q mm (bOf mm) (zOf mm) (cOf mm) n 0 300 (by omega) (by omega)
      rw [← em] at h
      exact h
    · have h := cpDn s f t d n hs ht (by omega) (by omega) (by omega) mm (bOf mm) (zOf mm) (cOf mm) n 0 300 (by omega) (by omega)
      rw [← em2] at h
      exact h
  rw [cp]
  exact ⟨_, _, _, gc, rfl, Rel_S hR (RS_cpy (Rel_RS hR) hs ht (by omega) (by omega))⟩
/-! provinces laid -/
theorem in64 (v : Int64) : (m_X7_in v (-1) 1 = 0 ∧ (lg_cmp v (-1) < 0 ∨ 0 < lg_cmp v 1)) ∨ (m_X7_in v (-1) 1 = 1 ∧ ¬ lg_cmp v (-1) < 0 ∧ ¬ 0 < lg_cmp v 1 ∧ (v.toInt32 = -1 ∨ v.toInt32 = 0 ∨ v.toInt32 = 1)) := by
  have e1 : (-1 : Int32).toInt64 = -1 := by decide
  have e2 : (1 : Int32).toInt64 = 1 := by decide
  unfold m_X7_in
  rw [e1, e2]
  by_cases h : lg_cmp v (-1) < 0
  · rw [if_pos h]; exact Or.inl ⟨rfl, Or.inl h⟩
  rw [if_neg h]
  by_cases h2 : 0 < lg_cmp v 1
  · rw [if_pos h2]; exact Or.inl ⟨rfl, Or.inr h2⟩
  rw [if_neg h2]
  refine Or.inr ⟨rfl, h, h2, ?_⟩
  have g1 : ¬ v.toInt < (-1 : Int64).toInt := fun q => h ((lgc_lt _ _).mpr ((fa_lt64 _ _).mpr q))
  have g2 : ¬ (1 : Int64).toInt < v.toInt := fun q => h2 ((lgc_gt _ _).mpr ((fa_lt64 _ _).mpr q))
  have a1 : (-1 : Int64).toInt = -1 := by decide
  have a2 : (1 : Int64).toInt = 1 := by decide
  have a3 : (0 : Int64).toInt = 0 := by decide
  rcases (show v.toInt = -1 ∨ v.toInt = 0 ∨ v.toInt = 1 by omega) with q | q | q
  · have : v = -1 := (fa_eq64 _ _).mpr (q.trans a1.symm)
    subst this; exact Or.inl (by decide)
  · have : v = 0 := (fa_eq64 _ _).mpr (q.trans a3.symm)
    subst this; exact Or.inr (Or.inl (by decide))
  · have : v = 1 := (fa_eq64 _ _).mpr (q.trans a2.symm)
    subst this; exact Or.inr (Or.inr (by decide))
theorem laysL (s : Nat) (hs : s < 4) (sz : Nat) (hsz : sz ≤ 40) : ∀ (k i n n2 : Nat) (acc : Int32) (x : pv_XT) (m : pv_MT), i + k = 8 → k < n → k < n2 → (shs x s).2.1 = nI sz → Rel x m →
    Sim (m_X6_lays_21 n (nI s) acc (nI i) x) (m_X7_lays_21 n2 (nI s) acc (nI i) m)
  | 0, i, n, n2, acc, x, m, hi, hn, hn2, hz, hR => by
    obtain ⟨n, rfl⟩ : ∃ n', n = n' + 1 := ⟨n - 1, by omega⟩
    obtain ⟨n2, rfl⟩ : ∃ n', n2 = n' + 1 := ⟨n2 - 1, by omega⟩
    have h1 : (8 : Int32) ≤ nI i := nI_le (a := 8) (by omega) (by omega)
    rw [m_X6_lays_21_s, m_X7_lays_21_s, gd_nI hs (by omega), gd_nI hs (by omega), gd_nI hs (by omega), if_pos h1, if_pos h1, ite_self, ite_self]
    exact ⟨_, _, _, rfl, rfl, hR⟩
  | k + 1, i, n, n2, acc, x, m, hi, hn, hn2, hz, hR => by
    obtain ⟨n, rfl⟩ : ∃ n', n = n' + 1 := ⟨n - 1, by omega⟩
    obtain ⟨n2, rfl⟩ : ∃ n', n2 = n' + 1 := ⟨n2 - 1, by omega⟩
    have h1 : ¬ (8 : Int32) ≤ nI i := nI_ge (b := 8) (by omega) (by omega)
    obtain ⟨s1, s2, s3, s4⟩ := Rel_RS hR s hs
    have z1 : (x.2.2.2.2.2.1 s).2.1 = nI sz := hz
    have z2 : m.2.2.2.2.2.2.2.2.2.2.2.2.2.2.2.1 s = nI sz := s2.symm.trans hz
    have z3 : m.2.2.2.2.2.2.2.2.2.2.2.2.2.2.2.2 (40 * s + i) = (x.2.2.2.2.2.1 s).2.2 i := (s4 i (by omega)).symm
    have e40 : (40 : Int32) * nI s + nI i = nI (40 * s + i) := by rw [show (40 : Int32) = nI 40 from rfl, pk_mul, nI_add]
    have e7 : (7 : Int32) + nI i = nI (7 + i) := nI_add 7 i
    rw [m_X6_lays_21_s, m_X7_lays_21_s, gd_nI hs (by omega), gd_nI hs (by omega), gd_nI hs (by omega), if_neg h1, if_neg h1, e40, e7, gd_nI (by omega) (by omega), gd_nI (by omega) (by omega), gd_nI (by omega) (by omega), gd_nI (by omega) (by omega), gd_nI (by omega) (by omega), nI_clamp (by omega), nI_clamp (by omega), nI_clamp (by omega), nI_clamp (by omega), z1, z2, z3]
    by_cases q : nI sz ≤ nI i
    · rw [if_pos q, if_pos q]; exact ⟨_, _, _, rfl, rfl, hR⟩
    rw [if_neg q, if_neg q]
    unfold m_X6_lays_88 m_X7_lays_85
    rw [nI_1]
    rcases in64 ((x.2.2.2.2.2.1 s).2.2 i) with ⟨a, b⟩ | ⟨a, b1, b2, hv⟩
    · rw [a, if_pos rfl]
      rcases b with b | b
      · rw [if_pos b]
        exact laysL s hs sz hsz k (i + 1) n n2 acc x m (by omega) (by omega) (by omega) hz hR
      · rw [if_pos b, ite_self]
        exact laysL s hs sz hsz k (i + 1) n n2 acc x m (by omega) (by omega) (by omega) hz hR
    · rw [a, if_neg (show ¬ (1 : Int32) = 0 by decide), if_neg b1, if_neg b2]
      exact laysL s hs sz hsz k (i + 1) n n2 (acc + 1) ((x.1.1, x.1.2.1, x.1.2.2.1, upd x.1.2.2.2.1 i ((x.2.2.2.2.2.1 s).2.2 i).toInt32, x.1.2.2.2.2), x.2) (upd m.1 (7 + i) ((x.2.2.2.2.2.1 s).2.2 i).toInt32, m.2) (by omega) (by omega) (by omega) hz ⟨RT_own hR.1 (by omega) _, IT_own hR.2.1 hv, hR.2.2⟩
theorem sim_lays (v0 : Int32) (x : pv_XT) (mm : pv_MT) (hR : Rel x mm) : ∃ (r : Int32) (x2 : pv_XT) (m2 : pv_MT), m_X6_lays v0 x = some (r, x2) ∧ m_X7_lays v0 mm = some (r, m2) ∧ Rel x2 m2 := by
  show Sim (m_X6_lays v0 x) (m_X7_lays v0 mm)
  unfold m_X6_lays m_X7_lays
  rcases fit_c hR v0 with ⟨c, i, hi, hc, h0, h1, h2⟩ | ⟨s, hs, rfl, h1, h2⟩
  · rw [h1, h2, Option.bind_some, Option.bind_some, if_neg h0, if_neg h0]; exact S_findb hR hi hc
  · obtain ⟨s1, s2, ⟨n, hn, s3⟩, s4⟩ := Rel_RS hR s hs
    have e1 : m_X6_lays_21 300 (nI s) 0 0 x = m_X6_lays_21 300 (nI s) 0 (nI 0) x := rfl
    have e2 : m_X7_lays_21 300 (nI s) 0 0 mm = m_X7_lays_21 300 (nI s) 0 (nI 0) mm := rfl
    rw [h1, h2, Option.bind_some, Option.bind_some, if_pos rfl, if_pos rfl, e1, e2]
    exact laysL s hs n hn 8 0 300 300 0 x mm (by omega) (by omega) (by omega) (s2.trans s3) hR
