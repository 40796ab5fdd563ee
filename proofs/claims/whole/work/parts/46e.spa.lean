/-! THE WHOLE TEXT -/
theorem nm_tab : ∀ x : Fin 6, m_X2_name (nI x.val) = x.val := by decide +kernel
def tiEnd (p : pv_PT) (A : pv_TT) : Option (Int32 × pv_PT × pv_TT) :=
  Option.bind (m_X5_isWord 7 p) fun u2 => if u2 = 0 then (Option.bind (m_X5_isWord 8 p) fun u4 => if u4 = 0 then some (0, (p, A)) else (Option.bind (m_X5_takesProvince (p, A)) fun u6 => if u6.1 = 0 then some (0, u6.2) else some (1, u6.2))) else (Option.bind (m_X5_takesMix (p, A)) fun u8 => pv_gz u8.1 (some (u8.1, u8.2)))
theorem ti_x (n : Nat) (x2 : Int32) (p : pv_PT) (A : pv_TT) : m_X5_takesItem_2 (n + 1) x2 (p, A) = (if 6 ≤ x2 then tiEnd p A else Option.bind (m_X5_isWord (m_X2_name x2) p) fun u10 => if u10 = 0 then m_X5_takesItem_2 n (x2 + 1) (p, A) else Option.bind (m_X5_takesEnvoy x2 (p, A)) fun u12 => pv_gz u12.1 (some (u12.1, u12.2))) := rfl
theorem tiL {p : pv_PT} {A : pv_TT} {w : Nat} (hw : w < 6) (hk : ∀ v, v < 10 → m_X5_isWord v p = some (if nI w = nI v then 1 else 0)) : ∀ (k x n : Nat), x + k = w → k < n → m_X5_takesItem_2 n (nI x) (p, A) = Option.bind (m_X5_takesEnvoy (nI w) (p, A)) fun u12 => pv_gz u12.1 (some (u12.1, u12.2))
  | 0, x, n, hx, hn => by
    obtain ⟨n, rfl⟩ : ∃ n', n = n' + 1 := ⟨n - 1, by omega⟩
    have e : x = w := by omega
    have h1 : ¬ (6 : Int32) ≤ nI w := nI_ge (b := 6) hw (by omega)
    have h2 : m_X2_name (nI w) = w := nm_tab ⟨w, hw⟩
    rw [e, ti_x, if_neg h1, h2, hk w (by omega), Option.bind_some, if_pos rfl, if_neg (show ¬ (1 : Int32) = 0 by decide)]
  | k + 1, x, n, hx, hn => by
    obtain ⟨n, rfl⟩ : ∃ n', n = n' + 1 := ⟨n - 1, by omega⟩
    have h1 : ¬ (6 : Int32) ≤ nI x := nI_ge (b := 6) (by omega) (by omega)
    have h2 : m_X2_name (nI x) = x := nm_tab ⟨x, by omega⟩
    have h3 : ¬ nI w = nI x := fun q => absurd (nI_inj32 (by omega) (by omega) q) (by omega)
    rw [ti_x, if_neg h1, h2, hk x (by omega), Option.bind_some, if_neg h3, if_pos rfl, nI_1]
    exact tiL hw hk k (x + 1) n (by omega) (by omega)
theorem tiN {p : pv_PT} {A : pv_TT} {rt : Int32} (hr : ∀ w, w < 6 → ¬ rt = nI w) (hk : ∀ v, v < 10 → m_X5_isWord v p = some (if rt = nI v then 1 else 0)) : ∀ (k x n : Nat), x + k = 6 → k < n → m_X5_takesItem_2 n (nI x) (p, A) = tiEnd p A
  | 0, x, n, hx, hn => by
    obtain ⟨n, rfl⟩ : ∃ n', n = n' + 1 := ⟨n - 1, by omega⟩
    have h1 : (6 : Int32) ≤ nI x := nI_le (a := 6) (by omega) (by omega)
    rw [ti_x, if_pos h1]
  | k + 1, x, n, hx, hn => by
    obtain ⟨n, rfl⟩ : ∃ n', n = n' + 1 := ⟨n - 1, by omega⟩
    have h1 : ¬ (6 : Int32) ≤ nI x := nI_ge (b := 6) (by omega) (by omega)
    have h2 : m_X2_name (nI x) = x := nm_tab ⟨x, by omega⟩
    rw [ti_x, if_neg h1, h2, hk x (by omega), Option.bind_some, if_neg (hr x (by omega)), if_pos rfl, nI_1]
    exact tiN hr hk k (x + 1) n (by omega) (by omega)
theorem It_gz {P : pv_PT} {m : pv_MT} {L b : Nat} {a : Option (Int32 × pv_PT × pv_TT)} {c : Option pv_MT} (h : It P m L b a c) : It P m L b (Option.bind a fun u => pv_gz u.1 (some (u.1, u.2))) c := by
  obtain ⟨r, p, A, M, e1, e2, h⟩ := h
  rw [e1, Option.bind_some]
  rcases h with ⟨rfl, h⟩ | ⟨rfl, h⟩
  · exact ⟨0, p, A, M, rfl, e2, Or.inl ⟨rfl, h⟩⟩
  · exact ⟨1, p, A, M, rfl, e2, Or.inr ⟨rfl, h⟩⟩
theorem It_if {P : pv_PT} {m : pv_MT} {L b : Nat} {a : Option (Int32 × pv_PT × pv_TT)} {c : Option pv_MT} (h : It P m L b a c) : It P m L b (Option.bind a fun u => if u.1 = 0 then some (0, u.2) else some (1, u.2)) c := by
  obtain ⟨r, p, A, M, e1, e2, h⟩ := h
  rw [e1, Option.bind_some]
  rcases h with ⟨rfl, h⟩ | ⟨rfl, h⟩
  · exact ⟨0, p, A, M, if_pos rfl, e2, Or.inl ⟨rfl, h⟩⟩
  · exact ⟨1, p, A, M, if_neg (show ¬ (1 : Int32) = 0 by decide), e2, Or.inr ⟨rfl, h⟩⟩
theorem item_x (m : pv_MT) (f : Nat → Int32) (tk beg ps val bad : Int32) : m_X7_item (mQ m f tk beg ps val bad) = (if 5 < tk then (Option.bind (m_X7_passes 7 (mQ m f tk beg ps val bad)) fun u2 => if u2.1 = 0 then (Option.bind (m_X7_passes 8 u2.2) fun u4 => if u4.1 = 0 then some (mQ u4.2 u4.2.1 u4.2.2.2.2.2.2.2.2.2.2.1 u4.2.2.2.2.2.2.2.2.2.2.2.1 u4.2.2.2.2.2.2.2.2.2.2.2.2.1 u4.2.2.2.2.2.2.2.2.2.2.2.2.2.1 1) else Option.bind (m_X7_landItem u4.2) fun u6 => some u6) else Option.bind (m_X7_mixItem u2.2) fun u7 => some u7) else Option.bind (m_X7_envoyItem (mQ m f tk beg ps val bad)) fun u8 => some u8) := rfl
theorem TK_ne0 {ct cv rv : Int32} {p : pv_PT} {w : Nat} (hw : w < 10) (h : TK ct (nI w) cv rv p) : ¬ ct = 0 := by
  obtain ⟨h, -⟩ := h
  rcases h with ⟨-, h⟩ | ⟨rfl, -⟩ | ⟨rfl, -⟩ | ⟨rfl, -⟩ | ⟨rfl, -⟩
  · exact absurd h.symm (big_ne hw).1
  · decide
  · decide
  · decide
  · decide
theorem TK_big {ct rt cv rv : Int32} {p : pv_PT} (hr : ∀ w, w < 6 → ¬ rt = nI w) (h : TK ct rt cv rv p) : 5 < rt := by
  obtain ⟨h, -⟩ := h
  rcases h with ⟨-, rfl⟩ | ⟨-, rfl⟩ | ⟨-, rfl, -⟩ | ⟨-, rfl⟩ | ⟨-, rfl | ⟨w, hw, rfl⟩⟩
  · decide
  · decide
  · decide
  · decide
  · decide
  · by_cases c : w < 6
    · exact absurd rfl (hr w c)
    · exact nI_lt (a := 5) (by omega) (by omega)
theorem item_ok {P : pv_PT} {m : pv_MT} {L : Nat} (hT : TP P m L) {A : pv_TT} {f : Nat → Int32} {p : pv_PT} {M : pv_MT} {b e : Nat} (hS : St P m L A f p M b e) : It P m L b (m_X5_takesItem (p, A)) (m_X7_item M) := by
  have hL : L ≤ 120 := hT.2.2.2
  obtain ⟨ct, rt, cv, rv, rfl, rfl, hbe, he, hlt, hk, hR, hI⟩ := hS
  have e0 : m_X5_takesItem (pQ P ct (nI b) (nI e) cv, A) = m_X5_takesItem_2 300 (nI 0) (pQ P ct (nI b) (nI e) cv, A) := rfl
  rw [e0, item_x]
  by_cases c : ∃ w, w < 6 ∧ rt = nI w
  · obtain ⟨w, hw, rfl⟩ := c
    have h5 : ¬ (5 : Int32) < nI w := nI_nlt (a := 5) (by omega) (by omega)
    rw [tiL hw hk.2 w 0 300 (by omega) (by omega), if_neg h5, bind_id]
    exact It_gz (envoyI hT (hlt (TK_ne0 (by omega) hk)) he hR hI hw)
  have hr : ∀ w, w < 6 → ¬ rt = nI w := fun w hw q => c ⟨w, hw, q⟩
  rw [tiN hr hk.2 6 0 300 (by omega) (by omega), if_pos (TK_big hr hk)]
  unfold tiEnd
  rw [hk.2 7 (by omega), hk.2 8 (by omega), Option.bind_some, Option.bind_some]
  by_cases c7 : rt = nI 7
  · subst c7
    obtain ⟨M1, y1, d⟩ := mixI (ct := ct) (cv := cv) (rv := rv) hT (hlt (TK_ne0 (by omega) hk)) he hR hI
    have py : m_X7_passes 7 (mQ m f (nI 7) (nI b) (nI e) rv 0) = some (1, M1) := ps_yes 7 m f (nI b) (nI e) rv y1
    rw [if_pos rfl, if_neg (show ¬ (1 : Int32) = 0 by decide), py, Option.bind_some]
    show It P m L b _ (if (1 : Int32) = 0 then _ else Option.bind (m_X7_mixItem M1) fun u7 => some u7)
    rw [if_neg (show ¬ (1 : Int32) = 0 by decide), bind_id]
    exact It_gz d
  have pn : m_X7_passes 7 (mQ m f rt (nI b) (nI e) rv 0) = some (0, mQ m f rt (nI b) (nI e) rv 0) := ps_no 7 m f rt (nI b) (nI e) rv c7
  rw [if_neg c7, if_pos rfl, pn, Option.bind_some]
  show It P m L b _ (if (0 : Int32) = 0 then (Option.bind (m_X7_passes 8 (mQ m f rt (nI b) (nI e) rv 0)) fun u4 => if u4.1 = 0 then some (mQ u4.2 u4.2.1 u4.2.2.2.2.2.2.2.2.2.2.1 u4.2.2.2.2.2.2.2.2.2.2.2.1 u4.2.2.2.2.2.2.2.2.2.2.2.2.1 u4.2.2.2.2.2.2.2.2.2.2.2.2.2.1 1) else Option.bind (m_X7_landItem u4.2) fun u6 => some u6) else _)
  rw [if_pos rfl]
  by_cases c8 : rt = nI 8
  · subst c8
    obtain ⟨M1, y1, d⟩ := landI (ct := ct) (cv := cv) (rv := rv) hT (hlt (TK_ne0 (by omega) hk)) he hR hI
    have py : m_X7_passes 8 (mQ m f (nI 8) (nI b) (nI e) rv 0) = some (1, M1) := ps_yes 8 m f (nI b) (nI e) rv y1
    rw [if_pos rfl, if_neg (show ¬ (1 : Int32) = 0 by decide), py, Option.bind_some]
    show It P m L b _ (if (1 : Int32) = 0 then _ else Option.bind (m_X7_landItem M1) fun u6 => some u6)
    rw [if_neg (show ¬ (1 : Int32) = 0 by decide), bind_id]
    exact It_if d
  have pn8 : m_X7_passes 8 (mQ m f rt (nI b) (nI e) rv 0) = some (0, mQ m f rt (nI b) (nI e) rv 0) := ps_no 8 m f rt (nI b) (nI e) rv c8
  rw [if_neg c8, if_pos rfl, pn8, Option.bind_some]
  exact ⟨0, _, A, mQ m f rt (nI b) (nI e) rv 1, rfl, if_pos rfl, Or.inl ⟨rfl, ct, cv, rt, rv, b, e, f, by omega, rfl, rfl⟩⟩
/-! from item to item -/
theorem pa_x (n : Nat) (x2 : Int32) (p : pv_PT) (A : pv_TT) : m_X5_parse_11 (n + 1) x2 (p, A) = (if 120 < x2 then some ((-1) - p.2.2.2.1, (p, A)) else Option.bind (m_X5_takesItem (p, A)) fun u3 => if u3.1 = 0 then some ((-1) - u3.2.1.2.2.2.1, u3.2) else if u3.2.1.2.2.1 = 0 then some (x2, u3.2) else if u3.2.1.2.2.1 = 3 then (Option.bind (m_X5_step u3.2.1) fun u7 => m_X5_parse_11 n (x2 + 1) (u7, u3.2.2)) else some ((-1) - u3.2.1.2.2.2.1, u3.2)) := rfl
theorem neg_tab : ∀ b : Fin 121, (-1 : Int32) - nI b.val < 0 := by decide +kernel
theorem pb_raw (M : pv_MT) : ∃ g, m_X7_putsBack M = some (g, M.2) ∧ ∀ j, j < 31 → g j = M.2.2.1 j := by
  obtain ⟨g, e, hg⟩ := copyAll_ok M.2.2.1 M.1
  unfold m_X7_putsBack
  rw [e]
  exact ⟨g, rfl, hg⟩
theorem s65_bad (it : Int32) (m : pv_MT) (f : Nat → Int32) (tk beg ps val bad : Int32) : ∃ g, m_X7_spa_60 it (mQ m f tk beg ps val bad) = some ((-1) - beg, mP (mQ m g tk beg ps val 1) (tp m) 0) ∧ ∀ j, j < 31 → g j = m.2.2.1 j := by
  obtain ⟨g, e, hg⟩ := pb_raw (mP (mQ m f tk beg ps val 1) (tp m) 0)
  refine ⟨g, ?_, hg⟩
  unfold m_X7_spa_60 m_X7_spa_65
  show pv_gz 1 (if (1 : Int32) = 0 then _ else Option.bind (m_X7_putsBack (mP (mQ m f tk beg ps val 1) (tp m) 0)) fun u9 => some ((-1) - u9.2.2.2.2.2.2.2.2.2.2.1, u9)) = _
  rw [if_neg (show ¬ (1 : Int32) = 0 by decide), e]
  rfl
theorem s65_ok (it : Int32) (m : pv_MT) (f : Nat → Int32) (tk beg ps val : Int32) : m_X7_spa_65 it 0 (mQ m f tk beg ps val 0) = some (it, mP (mQ m f tk beg ps val 0) (tp m) 0) := by
  unfold m_X7_spa_65
  show pv_gz 0 (if (0 : Int32) = 0 then some (it, mP (mQ m f tk beg ps val 0) (tp m) 0) else _) = _
  rw [if_pos rfl]
  rfl
def Out (P : pv_PT) (m : pv_MT) (a : Option (Int32 × pv_PT × pv_TT)) (c : Option (Int32 × pv_MT)) : Prop := ∃ r p A M, a = some (r, (p, A)) ∧ c = some (r, M) ∧ p.1 = P.1 ∧ ((r < 0 ∧ ∃ tk bg ps val g, M = mP (mQ m g tk bg ps val 1) (tp m) 0 ∧ ∀ j, j < 31 → g j = m.2.2.1 j) ∨ (¬ r < 0 ∧ ∃ tk bg ps val f, M = mP (mQ m f tk bg ps val 0) (tp m) 0 ∧ RT A f ∧ IT A 9999))
theorem s24_x (n : Nat) (it : Int32) (M : pv_MT) : m_X7_spa_24 (n + 1) it M = (Option.bind (m_X7_passes 21 M) fun u4 => if u4.1 = 0 then (if u4.2.2.2.2.2.2.2.2.2.2.2.2.2.2.1 = 0 then (if u4.2.2.2.2.2.2.2.2.2.2.1 = 22 then m_X7_spa_65 it 0 u4.2 else m_X7_spa_60 it u4.2) else m_X7_spa_60 it u4.2) else Option.bind (m_X7_item u4.2) fun u11 => m_X7_spa_24 n (it + 1) u11) := rfl
theorem s24_bad (n : Nat) (it : Int32) (m : pv_MT) (f : Nat → Int32) (tk beg ps val : Int32) : m_X7_spa_24 (n + 1) it (mQ m f tk beg ps val 1) = m_X7_spa_60 it (mQ m f tk beg ps val 1) := by
  rw [s24_x, ps_bad, Option.bind_some]
  show (if (0 : Int32) = 0 then (if (1 : Int32) = 0 then _ else m_X7_spa_60 it (mQ m f tk beg ps val 1)) else _) = _
  rw [if_pos rfl, if_neg (show ¬ (1 : Int32) = 0 by decide)]
theorem s24_no (n : Nat) (it : Int32) (m : pv_MT) (f : Nat → Int32) (tk beg ps val : Int32) (h : ¬ tk = 21) : m_X7_spa_24 (n + 1) it (mQ m f tk beg ps val 0) = if tk = 22 then m_X7_spa_65 it 0 (mQ m f tk beg ps val 0) else m_X7_spa_60 it (mQ m f tk beg ps val 0) := by
  rw [s24_x, ps_no 21 m f tk beg ps val h, Option.bind_some]
  show (if (0 : Int32) = 0 then (if (0 : Int32) = 0 then (if tk = 22 then m_X7_spa_65 it 0 (mQ m f tk beg ps val 0) else m_X7_spa_60 it (mQ m f tk beg ps val 0)) else _) else _) = _
  rw [if_pos rfl, if_pos rfl]
theorem s24_yes (n : Nat) (it : Int32) {m M : pv_MT} {f : Nat → Int32} {beg ps val : Int32} (h : m_X7_reads (mQ m f 21 beg ps val 0) = some M) : m_X7_spa_24 (n + 1) it (mQ m f 21 beg ps val 0) = Option.bind (m_X7_item M) fun u11 => m_X7_spa_24 n (it + 1) u11 := by
  rw [s24_x, ps_yes 21 m f beg ps val h, Option.bind_some]
  show (if (1 : Int32) = 0 then _ else Option.bind (m_X7_item M) fun u11 => m_X7_spa_24 n (it + 1) u11) = _
  rw [if_neg (show ¬ (1 : Int32) = 0 by decide)]
theorem out_bad {P : pv_PT} {m : pv_MT} {A : pv_TT} {f : Nat → Int32} {ct cv rt rv bad it : Int32} {b e : Nat} (hb : b ≤ 120) : Out P m (some ((-1) - nI b, (pQ P ct (nI b) (nI e) cv, A))) (m_X7_spa_60 it (mQ m f rt (nI b) (nI e) rv bad)) := by
  obtain ⟨g, e1, hg⟩ := s65_bad it m f rt (nI b) (nI e) rv bad
  exact ⟨_, _, _, _, rfl, e1, rfl, Or.inl ⟨neg_tab ⟨b, by omega⟩, rt, nI b, nI e, rv, g, rfl, hg⟩⟩
theorem parseL {P : pv_PT} {m : pv_MT} {L : Nat} (hT : TP P m L) : ∀ (k it n n2 b e : Nat) (f : Nat → Int32) (p : pv_PT) (M : pv_MT) (A : pv_TT), L + 1 ≤ b + k → 2 * it ≤ b + 2 → k < n → k < n2 → St P m L A f p M b e →
    Out P m (m_X5_parse_11 n (nI it) (p, A)) (Option.bind (m_X7_item M) fun u11 => m_X7_spa_24 n2 (nI it) u11)
  | 0, it, n, n2, b, e, f, p, M, A, hb, hit, hn, hn2, hS => by
    obtain ⟨ct, rt, cv, rv, -, -, h1, h2, -⟩ := hS
    omega
  | k + 1, it, n, n2, b, e, f, p, M, A, hb, hit, hn, hn2, hS => by
    obtain ⟨n, rfl⟩ : ∃ n', n = n' + 1 := ⟨n - 1, by omega⟩
    obtain ⟨n2, rfl⟩ : ∃ n', n2 = n' + 1 := ⟨n2 - 1, by omega⟩
    have hL : L ≤ 120 := hT.2.2.2
    have hbL : b ≤ L := by
      obtain ⟨ct, rt, cv, rv, -, -, h1, h2, -⟩ := hS
      omega
    have h120 : ¬ (120 : Int32) < nI it := nI_nlt (a := 120) (by omega) (by omega)
    obtain ⟨r, p', A', M', e1, e2, h⟩ := item_ok hT hS
    rw [pa_x, if_neg h120, e1, e2, Option.bind_some, Option.bind_some]
    rcases h with ⟨rfl, ct, cv, rt, rv, b', e', f', hb', rfl, rfl⟩ | ⟨rfl, f', b', e', hbb, ct, rt, cv, rv, rfl, rfl, h1, h2, h3, hk, hR, hI⟩
    · show Out P m (if (0 : Int32) = 0 then some ((-1) - nI b', (pQ P ct (nI b') (nI e') cv, A')) else _) _
      rw [if_pos rfl, s24_bad]
      exact out_bad hb'
    · show Out P m (if (1 : Int32) = 0 then _ else if ct = 0 then some (nI it, (pQ P ct (nI b') (nI e') cv, A')) else if ct = 3 then (Option.bind (m_X5_step (pQ P ct (nI b') (nI e') cv)) fun u7 => m_X5_parse_11 n (nI it + 1) (u7, A')) else some ((-1) - nI b', (pQ P ct (nI b') (nI e') cv, A'))) _
      rw [if_neg (show ¬ (1 : Int32) = 0 by decide)]
      have other : ¬ ct = 0 → ¬ ct = 3 → ¬ rt = 21 → ¬ rt = 22 → Out P m (if ct = 0 then some (nI it, (pQ P ct (nI b') (nI e') cv, A')) else if ct = 3 then (Option.bind (m_X5_step (pQ P ct (nI b') (nI e') cv)) fun u7 => m_X5_parse_11 n (nI it + 1) (u7, A')) else some ((-1) - nI b', (pQ P ct (nI b') (nI e') cv, A'))) (m_X7_spa_24 (n2 + 1) (nI it) (mQ m f' rt (nI b') (nI e') rv 0)) := by
        intro n0 n3 r1 r2
        rw [if_neg n0, if_neg n3, s24_no n2 (nI it) m f' rt (nI b') (nI e') rv r1, if_neg r2]
        exact out_bad (by omega)
      obtain ⟨hk1, hk2⟩ := id hk
      rcases hk1 with ⟨rfl, rfl⟩ | ⟨rfl, rfl⟩ | ⟨rfl, rfl, -⟩ | ⟨rfl, rfl⟩ | ⟨rfl, hw⟩
      · rw [if_pos rfl, s24_no n2 (nI it) m f' 22 (nI b') (nI e') rv (by decide), if_pos rfl, s65_ok]
        exact ⟨_, _, _, _, rfl, rfl, rfl, Or.inr ⟨nI_pos (by omega), 22, nI b', nI e', rv, f', rfl, hR, hI⟩⟩
      · obtain ⟨ct2, rt2, cv2, rv2, b2, e2', j1, j2, j3, j4, x2, y2, k2⟩ := step_ok hT h2 f' 3 (nI b') cv 21 (nI b') rv 0
        rw [if_neg (show ¬ (3 : Int32) = 0 by decide), if_pos rfl, x2, Option.bind_some, s24_yes n2 (nI it) y2, nI_1]
        have hlt := h3 (by decide)
        exact parseL hT k (it + 1) n n2 b2 e2' f' _ _ A' (by omega) (by omega) (by omega) (by omega) ⟨ct2, rt2, cv2, rv2, rfl, rfl, j2, j3, j4, k2, hR, hI⟩
      · exact other (by decide) (by decide) (by decide) (by decide)
      · exact other (by decide) (by decide) (by decide) (by decide)
      · rcases hw with rfl | ⟨w, hw, rfl⟩
        · exact other (by decide) (by decide) (by decide) (by decide)
        · exact other (by decide) (by decide) (fun q => (big_ne hw).2.1 q.symm) (fun q => (big_ne hw).1 q.symm)
theorem spa_x (x : pv_XT) {A A2 : pv_TT} {p : pv_PT} {r : Int32} (h : m_X4_become (x.2.2.1, x.1) = some (A, x.1)) (h2 : m_X5_parse (x.2.2.2.2.1, A) = some (r, (p, A2))) : m_X6_spa x = if r < 0 then some (r, xP (xA x A2 x.2.2.2.1) (p.1, 0, p.2.2)) else some (r, xP (bcm x.1 A2, x.2.1, A2, x.2.2.2.1, x.2.2.2.2) (p.1, 0, p.2.2)) := by
  unfold m_X6_spa
  rw [h]
  show (Option.bind (m_X5_parse (x.2.2.2.2.1, A)) fun u2 => if u2.1 < 0 then some (u2.1, xP (xA x u2.2.2 x.2.2.2.1) (u2.2.1.1, 0, u2.2.1.2.2)) else Option.bind (m_X4_become (x.1, u2.2.2)) fun u4 => some (u2.1, xP (u4.1, x.2.1, u4.2, x.2.2.2.1, x.2.2.2.2) (u2.2.1.1, 0, u2.2.1.2.2))) = _
  rw [h2, Option.bind_some, become_eq]
  rfl
theorem sim_spa  (x : pv_XT) (mm : pv_MT) (hR : Rel x mm) : ∃ (r : Int32) (x2 : pv_XT) (m2 : pv_MT), m_X6_spa  x = some (r, x2) ∧ m_X7_spa  mm = some (r, m2) ∧ Rel x2 m2 := by
  show Sim (m_X6_spa x) (m_X7_spa mm)
  obtain ⟨m1, t1, t2, t3⟩ := thinks_ok hR
  obtain ⟨A, a1, a2, a3, a4⟩ := ahead_0 (x := x) (m := m1) (by rw [t3]; exact hR.1) hR.2.1
  have hP : RP x.2.2.2.2.1 (tp m1) (td m1) := t2.2.2.2.2.1
  obtain ⟨p1, ⟨L, hL, p2⟩, p3⟩ := hP
  have hT : TP x.2.2.2.2.1 m1 L := ⟨p3, p1.trans p2, p2, hL⟩
  obtain ⟨ct, rt, cv, rv, b, e, i1, i2, i3, i4, x1, y1, k1⟩ := step_ok hT (Nat.zero_le L) m1.1 x.2.2.2.2.1.2.2.1 x.2.2.2.2.1.2.2.2.1 x.2.2.2.2.1.2.2.2.2.2 m1.2.2.2.2.2.2.2.2.2.1 m1.2.2.2.2.2.2.2.2.2.2.1 m1.2.2.2.2.2.2.2.2.2.2.2.2.1 0
  obtain ⟨r, p, A2, M, o1, o2, o3, o4⟩ := parseL hT (L + 1) 1 300 300 b e m1.1 _ _ A (by omega) (by omega) (by omega) (by omega) ⟨ct, rt, cv, rv, rfl, rfl, i2, i3, i4, k1, a2, a3⟩
  have c1 : m_X5_parse (x.2.2.2.2.1, A) = some (r, (p, A2)) := by
    unfold m_X5_parse
    show (Option.bind (m_X5_step (pQ x.2.2.2.2.1 x.2.2.2.2.1.2.2.1 x.2.2.2.2.1.2.2.2.1 (nI 0) x.2.2.2.2.1.2.2.2.2.2)) fun u1 => m_X5_parse_11 300 1 (u1, A)) = _
    rw [x1, Option.bind_some]
    exact o1
  have c2 : m_X7_spa mm = some (r, M) := by
    unfold m_X7_spa
    rw [t1, Option.bind_some]
    show (Option.bind (m_X7_reads (mQ m1 m1.1 m1.2.2.2.2.2.2.2.2.2.1 m1.2.2.2.2.2.2.2.2.2.2.1 (nI 0) m1.2.2.2.2.2.2.2.2.2.2.2.2.1 0)) fun u2 => Option.bind (m_X7_item u2) fun u3 => m_X7_spa_24 300 1 u3) = _
    rw [y1, Option.bind_some]
    exact o2
  have hp : RP (p.1, 0, p.2.2) (tp m1) 0 := ⟨rfl, ⟨0, by omega, rfl⟩, fun j hj => by show p.1 j = _; rw [o3]; exact p3 j hj⟩
  rw [spa_x x a1 c1, c2]
  rcases o4 with ⟨hr, tk, bg, ps, val, g2, rfl, hg⟩ | ⟨hr, tk, bg, ps, val, f, rfl, hf, hi⟩
  · rw [if_pos hr]
    exact ⟨_, _, _, rfl, rfl, RT_cong hg t2.1, t2.2.1, t2.2.2.1, t2.2.2.2.1, hp, t2.2.2.2.2.2⟩
  · rw [if_neg hr]
    exact ⟨_, _, _, rfl, rfl, bcm_RT x.1 hf, bcm_IT x.1 hi, t2.2.2.1, t2.2.2.2.1, hp, t2.2.2.2.2.2⟩
