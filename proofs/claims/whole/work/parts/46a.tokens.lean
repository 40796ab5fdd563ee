/-! TOKENS OF THE TEXT -/
def pQ (P : pv_PT) (tok st pl val : Int32) : pv_PT := (P.1, P.2.1, tok, st, pl, val)
def mQ (m : pv_MT) (f : Nat → Int32) (tok beg ps val bad : Int32) : pv_MT := (f, m.2.1, m.2.2.1, m.2.2.2.1, m.2.2.2.2.1, m.2.2.2.2.2.1, m.2.2.2.2.2.2.1, m.2.2.2.2.2.2.2.1, m.2.2.2.2.2.2.2.2.1, tok, beg, ps, val, bad, m.2.2.2.2.2.2.2.2.2.2.2.2.2.2)
abbrev tp (m : pv_MT) : Nat → Int32 := m.2.2.2.2.2.2.2.1
abbrev td (m : pv_MT) : Int32 := m.2.2.2.2.2.2.2.2.1
def TP (P : pv_PT) (m : pv_MT) (L : Nat) : Prop := (∀ j, j < 120 → P.1 j = tp m j) ∧ P.2.1 = nI L ∧ td m = nI L ∧ L ≤ 120
theorem iw01 (x a b : Int32) : m_X6_isWithin x a b = 0 ∨ m_X6_isWithin x a b = 1 := by
  unfold m_X6_isWithin
  by_cases h : x < a
  · rw [if_pos h]; exact Or.inl rfl
  · rw [if_neg h]
    by_cases h2 : b < x
    · rw [if_pos h2]; exact Or.inl rfl
    · rw [if_neg h2]; exact Or.inr rfl
theorem iw_eq (x : Int32) {c : Nat} (hc : c < 2 ^ 31) : m_X6_isWithin x (nI c) (nI c) = if x = nI c then 1 else 0 := by
  rcases win x hc hc with h | ⟨k, h1, h2, rfl, h⟩
  · rw [h]
    by_cases e : x = nI c
    · subst e
      exfalso
      unfold m_X6_isWithin at h
      rw [if_neg (nI_nlt (Nat.le_refl c) hc), if_neg (nI_nlt (Nat.le_refl c) hc)] at h
      exact absurd h (by decide)
    · rw [if_neg e]
  · have e : k = c := by omega
    subst e
    rw [h, if_pos rfl]
theorem byte_ok {m : pv_MT} {L p : Nat} (hd : td m = nI L) (hL : L ≤ 120) (hp : p ≤ L) (f : Nat → Int32) (tk beg ps val bad a b : Int32) : m_X7_isByte (nI p) a b (mQ m f tk beg ps val bad) = some (if p < L then m_X6_isWithin (tp m p) a b else 0) := by
  unfold m_X7_isByte
  show (if td m ≤ nI p then some 0 else pv_gd (nI p) 120 (if m_X7_in ((tp m (nI p).toNatClampNeg).toInt64) a b = 0 then some 0 else some 1)) = _
  rw [hd]
  by_cases h : p < L
  · rw [if_neg (nI_ge h (by omega)), gd_nI (by omega) (by omega), nI_clamp (by omega), in_eq, if_pos h]
    rcases iw01 (tp m p) a b with q | q
    · rw [q, if_pos rfl]
    · rw [q, if_neg (show ¬ (1 : Int32) = 0 by decide)]
  · rw [if_pos (nI_le (by omega) (by omega)), if_neg h]
/-! words -/
theorem sw_x (n : Nat) (P : pv_PT) (tok st pl val : Int32) : m_X5_stepWord_5 (n + 1) (pQ P tok st pl val) = (if P.2.1 ≤ pl then some (pQ P tok st pl val) else pv_gd pl 120 (if m_X5_isLetter (P.1 pl.toNatClampNeg) = 0 then some (pQ P tok st pl val) else m_X5_stepWord_5 n (pQ P tok st (pl + 1) val))) := rfl
theorem rw_m (n : Nat) (m : pv_MT) (f : Nat → Int32) (tk beg ps val bad : Int32) : m_X7_reads_76 (n + 1) (mQ m f tk beg ps val bad) = (Option.bind (m_X7_isByte ps 97 122 (mQ m f tk beg ps val bad)) fun u => if u = 0 then (Option.bind (m_X7_wordHere (mQ m f tk beg ps val bad)) fun u16 => some (mQ m f u16 beg ps val bad)) else m_X7_reads_76 n (mQ m f tk beg (ps + 1) val bad)) := rfl
theorem let_eq (x : Int32) : m_X5_isLetter x = m_X6_isWithin x 97 122 := rfl
theorem dig_eq (x : Int32) : m_X5_isDigit x = m_X6_isWithin x 48 57 := rfl
theorem wordL {P : pv_PT} {m : pv_MT} {L : Nat} (hT : TP P m L) (f : Nat → Int32) (tok st cv tk beg rv bad : Int32) : ∀ (k p n n2 : Nat), p + k = L → k < n → k < n2 →
    ∃ e, p ≤ e ∧ e ≤ L ∧ (∀ j, p ≤ j → j < e → ¬ m_X6_isWithin (tp m j) 97 122 = 0) ∧ (p < L → ¬ m_X6_isWithin (tp m p) 97 122 = 0 → p < e) ∧ m_X5_stepWord_5 n (pQ P tok st (nI p) cv) = some (pQ P tok st (nI e) cv) ∧ m_X7_reads_76 n2 (mQ m f tk beg (nI p) rv bad) = (Option.bind (m_X7_wordHere (mQ m f tk beg (nI e) rv bad)) fun u16 => some (mQ m f u16 beg (nI e) rv bad))
  | 0, p, n, n2, hp, hn, hn2 => by
    obtain ⟨n, rfl⟩ : ∃ n', n = n' + 1 := ⟨n - 1, by omega⟩
    obtain ⟨n2, rfl⟩ : ∃ n', n2 = n' + 1 := ⟨n2 - 1, by omega⟩
    obtain ⟨h1, h2, h3, h4⟩ := hT
    have q : P.2.1 ≤ nI p := by rw [h2]; exact nI_le (by omega) (by omega)
    rw [sw_x, rw_m, if_pos q, byte_ok h3 h4 (by omega), if_neg (show ¬ p < L by omega), Option.bind_some, if_pos rfl]
    exact ⟨p, Nat.le_refl _, by omega, fun j a b => by omega, fun a => by omega, rfl, rfl⟩
  | k + 1, p, n, n2, hp, hn, hn2 => by
    obtain ⟨n, rfl⟩ : ∃ n', n = n' + 1 := ⟨n - 1, by omega⟩
    obtain ⟨n2, rfl⟩ : ∃ n', n2 = n' + 1 := ⟨n2 - 1, by omega⟩
    obtain ⟨h1, h2, h3, h4⟩ := id hT
    have q : ¬ P.2.1 ≤ nI p := by rw [h2]; exact nI_ge (by omega) (by omega)
    rw [sw_x, rw_m, if_neg q, gd_nI (by omega) (by omega), nI_clamp (by omega), let_eq, h1 p (by omega), byte_ok h3 h4 (by omega), if_pos (show p < L by omega), Option.bind_some]
    by_cases z : m_X6_isWithin (tp m p) 97 122 = 0
    · rw [if_pos z, if_pos z]
      exact ⟨p, Nat.le_refl _, by omega, fun j a b => by omega, fun _ a => absurd z a, rfl, rfl⟩
    · rw [if_neg z, if_neg z, nI_1]
      obtain ⟨e, e1, e2, e3, e4, e5, e6⟩ := wordL hT f tok st cv tk beg rv bad k (p + 1) n n2 (by omega) (by omega) (by omega)
      refine ⟨e, by omega, e2, fun j a b => ?_, fun _ _ => by omega, e5, e6⟩
      by_cases c : j = p
      · subst c; exact z
      · exact e3 j (by omega) b
/-! numbers -/
def VR (cv rv : Int32) : Prop := (∃ v, v ≤ 999 ∧ cv = nI v ∧ rv = nI v) ∨ (cv = nI 1000 ∧ ∃ v, 1000 ≤ v ∧ v ≤ 9999 ∧ rv = nI v)
theorem sn_x (n : Nat) (P : pv_PT) (tok st pl val : Int32) : m_X5_stepNumber_10 (n + 1) (pQ P tok st pl val) = (if P.2.1 ≤ pl then some (pQ P tok st pl val) else pv_gd pl 120 (if m_X5_isDigit (P.1 pl.toNatClampNeg) = 0 then some (pQ P tok st pl val) else pv_gd pl 120 (m_X5_stepNumber_10 n (pQ P tok st (pl + 1) (if 10 * val + P.1 pl.toNatClampNeg - 48 < 1000 then 10 * val + P.1 pl.toNatClampNeg - 48 else 1000))))) := rfl
theorem rn_m (n : Nat) (m : pv_MT) (f : Nat → Int32) (tk beg ps val bad : Int32) : m_X7_reads_130 (n + 1) (mQ m f tk beg ps val bad) = (Option.bind (m_X7_isByte ps 48 57 (mQ m f tk beg ps val bad)) fun u => if u = 0 then some (mQ m f 20 beg ps val bad) else if val ≤ 999 then pv_gd ps 120 (m_X7_reads_130 n (mQ m f tk beg (ps + 1) (10 * val + tp m ps.toNatClampNeg - 48) bad)) else m_X7_reads_130 n (mQ m f tk beg (ps + 1) val bad)) := rfl
theorem digit_of {x : Int32} (h : ¬ m_X6_isWithin x 48 57 = 0) : ∃ d, d ≤ 9 ∧ x = nI (48 + d) := by
  rcases win x (a := 48) (b := 57) (by omega) (by omega) with g | ⟨k, h1, h2, rfl, g⟩
  · exact absurd g h
  · exact ⟨k - 48, by omega, by rw [show 48 + (k - 48) = k by omega]⟩
theorem dig_val (v d : Nat) : (10 : Int32) * nI v + nI (48 + d) - 48 = nI (10 * v + d) := by
  rw [show (10 : Int32) = nI 10 from rfl, pk_mul, nI_add, show (48 : Int32) = nI 48 from rfl, pk_sub (by omega)]
  congr 1; omega
theorem numL {P : pv_PT} {m : pv_MT} {L : Nat} (hT : TP P m L) (f : Nat → Int32) (tok st tk beg bad : Int32) : ∀ (k p n n2 : Nat) (cv rv : Int32), p + k = L → k < n → k < n2 → VR cv rv →
    ∃ e cv' rv', p ≤ e ∧ e ≤ L ∧ VR cv' rv' ∧ (p < L → ¬ m_X6_isWithin (tp m p) 48 57 = 0 → p < e) ∧ m_X5_stepNumber_10 n (pQ P tok st (nI p) cv) = some (pQ P tok st (nI e) cv') ∧ m_X7_reads_130 n2 (mQ m f tk beg (nI p) rv bad) = some (mQ m f 20 beg (nI e) rv' bad)
  | 0, p, n, n2, cv, rv, hp, hn, hn2, hv => by
    obtain ⟨n, rfl⟩ : ∃ n', n = n' + 1 := ⟨n - 1, by omega⟩
    obtain ⟨n2, rfl⟩ : ∃ n', n2 = n' + 1 := ⟨n2 - 1, by omega⟩
    obtain ⟨h1, h2, h3, h4⟩ := hT
    have q : P.2.1 ≤ nI p := by rw [h2]; exact nI_le (by omega) (by omega)
    rw [sn_x, rn_m, if_pos q, byte_ok h3 h4 (by omega), if_neg (show ¬ p < L by omega), Option.bind_some, if_pos rfl]
    exact ⟨p, cv, rv, Nat.le_refl _, by omega, hv, fun a => by omega, rfl, rfl⟩
  | k + 1, p, n, n2, cv, rv, hp, hn, hn2, hv => by
    obtain ⟨n, rfl⟩ : ∃ n', n = n' + 1 := ⟨n - 1, by omega⟩
    obtain ⟨n2, rfl⟩ : ∃ n', n2 = n' + 1 := ⟨n2 - 1, by omega⟩
    obtain ⟨h1, h2, h3, h4⟩ := id hT
    have q : ¬ P.2.1 ≤ nI p := by rw [h2]; exact nI_ge (by omega) (by omega)
    rw [sn_x, rn_m, if_neg q, gd_nI (by omega) (by omega), gd_nI (by omega) (by omega), gd_nI (by omega) (by omega), nI_clamp (by omega), dig_eq, h1 p (by omega), byte_ok h3 h4 (by omega), if_pos (show p < L by omega), Option.bind_some]
    by_cases z : m_X6_isWithin (tp m p) 48 57 = 0
    · rw [if_pos z, if_pos z]
      exact ⟨p, cv, rv, Nat.le_refl _, by omega, hv, fun _ a => absurd z a, rfl, rfl⟩
    · rw [if_neg z, if_neg z, nI_1]
      obtain ⟨d, hd, ed⟩ := digit_of z
      have go : ∀ cv2 rv2 : Int32, VR cv2 rv2 → ∃ e cv' rv', p ≤ e ∧ e ≤ L ∧ VR cv' rv' ∧ (p < L → ¬ m_X6_isWithin (tp m p) 48 57 = 0 → p < e) ∧ m_X5_stepNumber_10 n (pQ P tok st (nI (p + 1)) cv2) = some (pQ P tok st (nI e) cv') ∧ m_X7_reads_130 n2 (mQ m f tk beg (nI (p + 1)) rv2 bad) = some (mQ m f 20 beg (nI e) rv' bad) := by
        intro cv2 rv2 h
        obtain ⟨e, cv', rv', e1, e2, e3, e4, e5, e6⟩ := numL hT f tok st tk beg bad k (p + 1) n n2 cv2 rv2 (by omega) (by omega) (by omega) h
        exact ⟨e, cv', rv', by omega, e2, e3, fun _ _ => by omega, e5, e6⟩
      rw [ed] at go ⊢
      rcases hv with ⟨v, hv, rfl, rfl⟩ | ⟨rfl, v, hv1, hv2, rfl⟩
      · rw [dig_val, if_pos (show nI v ≤ 999 from nI_le (b := 999) hv (by omega))]
        by_cases c : 10 * v + d ≤ 999
        · rw [if_pos (show nI (10 * v + d) < 1000 from nI_lt (b := 1000) (by omega) (by omega))]
          exact go _ _ (Or.inl ⟨10 * v + d, c, rfl, rfl⟩)
        · rw [if_neg (show ¬ nI (10 * v + d) < 1000 from nI_nlt (b := 1000) (by omega) (by omega))]
          exact go _ _ (Or.inr ⟨rfl, 10 * v + d, by omega, by omega, rfl⟩)
      · rw [dig_val, if_neg (show ¬ nI v ≤ 999 from nI_ge (a := 999) (by omega) (by omega)), if_neg (show ¬ nI (10 * 1000 + d) < 1000 from nI_nlt (b := 1000) (by omega) (by omega))]
        exact go _ _ (Or.inr ⟨rfl, v, hv1, hv2, rfl⟩)
/-! names -/
def eqs (a t : Nat → Int32) : Nat → Nat → Int32
  | 0, _ => 1
  | k + 1, i => if t i = a i then eqs a t k (i + 1) else 0
theorem eqs_01 (a t : Nat → Int32) : ∀ k i, eqs a t k i = 0 ∨ eqs a t k i = 1
  | 0, _ => Or.inr rfl
  | k + 1, i => by
    show (if t i = a i then eqs a t k (i + 1) else 0) = 0 ∨ (if t i = a i then eqs a t k (i + 1) else 0) = 1
    by_cases h : t i = a i
    · rw [if_pos h]; exact eqs_01 a t k (i + 1)
    · rw [if_neg h]; exact Or.inl rfl
theorem eqs_zero (a t : Nat → Int32) : ∀ k i j, i ≤ j → j < i + k → ¬ t j = a j → eqs a t k i = 0
  | 0, i, j, h1, h2, _ => by omega
  | k + 1, i, j, h1, h2, h3 => by
    show (if t i = a i then eqs a t k (i + 1) else 0) = 0
    by_cases h : t i = a i
    · rw [if_pos h]
      have : ¬ i = j := fun e => h3 (by rw [← e]; exact h)
      exact eqs_zero a t k (i + 1) j (by omega) (by omega) h3
    · rw [if_neg h]
theorem eqs_cong {a a2 t t2 : Nat → Int32} : ∀ k i, (∀ j, i ≤ j → j < i + k → a j = a2 j ∧ t j = t2 j) → eqs a t k i = eqs a2 t2 k i
  | 0, _, _ => rfl
  | k + 1, i, h => by
    show (if t i = a i then eqs a t k (i + 1) else 0) = if t2 i = a2 i then eqs a2 t2 k (i + 1) else 0
    rw [(h i (by omega) (by omega)).1, (h i (by omega) (by omega)).2, eqs_cong k (i + 1) fun j h1 h2 => h j (by omega) (by omega)]
abbrev wlen (w : Nat) : Nat := pv_len.getD w 0
abbrev nmB (w j : Nat) : Int32 := pv_nam (8 * w + j)
abbrev chB (w j : Nat) : Int32 := ((((pv_byt.getD w []).getD j 0) &&& 255).toUInt32 % 65536).toInt32
theorem tab_len : ∀ w : Fin 10, 1 ≤ wlen w.val ∧ wlen w.val ≤ 8 := by decide +kernel
theorem tab_ch : ∀ w : Fin 10, ∀ j : Fin 8, j.val < wlen w.val → chB w.val j.val = nmB w.val j.val := by decide +kernel
theorem tab_nm : ∀ w : Fin 10, ∀ j : Fin 8, (nmB w.val j.val = 0 ↔ ¬ j.val < wlen w.val) := by decide +kernel
theorem tab_ne : ∀ w v : Fin 10, w.val = v.val ∨ ¬ wlen w.val = wlen v.val ∨ ∃ j : Fin 8, j.val < wlen w.val ∧ ¬ nmB w.val j.val = nmB v.val j.val := by decide +kernel
/-- whether the word from b on, of z letters, is the name w -/
def mtv (m : pv_MT) (b z w : Nat) : Int32 := if z = wlen w then eqs (nmB w) (fun j => tp m (b + j)) z 0 else 0
theorem mtv_01 (m : pv_MT) (b z w : Nat) : mtv m b z w = 0 ∨ mtv m b z w = 1 := by
  unfold mtv
  by_cases h : z = wlen w
  · rw [if_pos h]; exact eqs_01 _ _ _ _
  · rw [if_neg h]; exact Or.inl rfl
theorem mtv_1 {m : pv_MT} {b z w : Nat} (h : ¬ mtv m b z w = 0) : z = wlen w ∧ ∀ j, j < z → tp m (b + j) = nmB w j := by
  unfold mtv at h
  by_cases e : z = wlen w
  · rw [if_pos e] at h
    refine ⟨e, fun j hj => ?_⟩
    by_cases c : tp m (b + j) = nmB w j
    · exact c
    · exact absurd (eqs_zero (nmB w) (fun j => tp m (b + j)) z 0 j (by omega) (by omega) c) h
  · rw [if_neg e] at h; exact absurd rfl h
theorem len_ok {w : Nat} (hw : w < 10) : m_J0_length_8abf5 w = some (nI (wlen w)) := by unfold m_J0_length_8abf5; rw [if_pos hw]
theorem char_ok {w i : Nat} (hw : w < 10) (hi : i < wlen w) : m_J0_charAt_5068e w (nI i) = some (chB w i) := by
  have h8 : wlen w ≤ 8 := (tab_len ⟨w, hw⟩).2
  unfold m_J0_charAt_5068e
  rw [if_pos hw, gd_nI hi (by omega), nI_clamp (by omega)]
theorem iwL {P : pv_PT} {m : pv_MT} {L : Nat} (hT : TP P m L) {w : Nat} (hw : w < 10) {b : Nat} (hb : b + wlen w ≤ L) (tok pl val : Int32) : ∀ (k i n : Nat), i + k = wlen w → k < n →
    m_X5_isWord_28 n (nI i) w (pQ P tok (nI b) pl val) = some (eqs (chB w) (fun j => tp m (b + j)) k i)
  | 0, i, n, hi, hn => by
    obtain ⟨n, rfl⟩ : ∃ n', n = n' + 1 := ⟨n - 1, by omega⟩
    have h8 : wlen w ≤ 8 := (tab_len ⟨w, hw⟩).2
    have q : nI (wlen w) ≤ nI i := nI_le (by omega) (by omega)
    rw [m_X5_isWord_28_s, len_ok hw, Option.bind_some, if_pos q]
    rfl
  | k + 1, i, n, hi, hn => by
    obtain ⟨n, rfl⟩ : ∃ n', n = n' + 1 := ⟨n - 1, by omega⟩
    obtain ⟨h1, h2, h3, h4⟩ := id hT
    have h8 : wlen w ≤ 8 := (tab_len ⟨w, hw⟩).2
    have q : ¬ nI (wlen w) ≤ nI i := nI_ge (by omega) (by omega)
    rw [m_X5_isWord_28_s, len_ok hw, Option.bind_some, if_neg q, char_ok hw (by omega), Option.bind_some]
    show pv_gd (nI b + nI i) 120 (if P.1 (nI b + nI i).toNatClampNeg = chB w i then m_X5_isWord_28 n (nI i + 1) w (pQ P tok (nI b) pl val) else some 0) = some (if tp m (b + i) = chB w i then eqs (chB w) (fun j => tp m (b + j)) k (i + 1) else 0)
    rw [nI_add, gd_nI (by omega) (by omega), nI_clamp (by omega), h1 (b + i) (by omega), nI_1]
    by_cases c : tp m (b + i) = chB w i
    · rw [if_pos c, if_pos c]; exact iwL hT hw hb tok pl val k (i + 1) n (by omega) (by omega)
    · rw [if_neg c, if_neg c]
theorem isWord_ok {P : pv_PT} {m : pv_MT} {L : Nat} (hT : TP P m L) {w : Nat} (hw : w < 10) {b e : Nat} (hb : b ≤ e) (he : e ≤ L) (val : Int32) : m_X5_isWord w (pQ P 1 (nI b) (nI e) val) = some (mtv m b (e - b) w) := by
  have h8 : wlen w ≤ 8 := (tab_len ⟨w, hw⟩).2
  have hL : L ≤ 120 := hT.2.2.2
  unfold m_X5_isWord
  show (if (1 : Int32) = 1 then (Option.bind (m_J0_length_8abf5 w) fun u_2 => if nI e - nI b = u_2 then m_X5_isWord_28 300 0 w (pQ P 1 (nI b) (nI e) val) else some 0) else some 0) = _
  rw [if_pos rfl, len_ok hw, Option.bind_some, pk_sub hb]
  unfold mtv
  by_cases c : e - b = wlen w
  · have e0 : m_X5_isWord_28 300 0 w (pQ P 1 (nI b) (nI e) val) = m_X5_isWord_28 300 (nI 0) w (pQ P 1 (nI b) (nI e) val) := rfl
    rw [if_pos c, if_pos (congrArg nI c), e0, iwL hT hw (by omega) 1 (nI e) val (wlen w) 0 300 (by omega) (by omega), c]
    congr 1
    exact eqs_cong _ _ fun j _ h2 => ⟨tab_ch ⟨w, hw⟩ ⟨j, by omega⟩ (by dsimp only; omega), rfl⟩
  · rw [if_neg c, if_neg (fun q => c (nI_inj32 (by omega) (by omega) q))]
theorem isWord_no {P : pv_PT} {w : Nat} {tok st pl val : Int32} (h : ¬ tok = 1) : m_X5_isWord w (pQ P tok st pl val) = some 0 := by
  unfold m_X5_isWord
  exact if_neg h
theorem nm_0 (n : Nat) (x1 x2 x4 : Int32) (M : pv_MT) : m_X7_isName_34 (n + 1) x1 x2 0 x4 M = some 0 := by
  rw [m_X7_isName_34_s, if_pos (show (0 : Int32) = 0 from rfl), ite_self]
  rfl
theorem nmL {m : pv_MT} {w : Nat} (hw : w < 10) {b z : Nat} (hz : z ≤ 8) (hb : b + z ≤ 120) (f : Nat → Int32) (tk ps val bad : Int32) : ∀ (k i n : Nat), i + k = z → k + 1 < n →
    m_X7_isName_34 n (nI w) (nI z) 1 (nI i) (mQ m f tk (nI b) ps val bad) = some (eqs (nmB w) (fun j => tp m (b + j)) k i)
  | 0, i, n, hi, hn => by
    obtain ⟨n, rfl⟩ : ∃ n', n = n' + 1 := ⟨n - 1, by omega⟩
    have q : nI z ≤ nI i := nI_le (by omega) (by omega)
    rw [m_X7_isName_34_s, if_pos q]
    rfl
  | k + 1, i, n, hi, hn => by
    obtain ⟨n, rfl⟩ : ∃ n', n = n' + 1 + 1 := ⟨n - 2, by omega⟩
    have q : ¬ nI z ≤ nI i := nI_ge (by omega) (by omega)
    have e8 : (8 : Int32) * nI w + nI i = nI (8 * w + i) := by rw [show (8 : Int32) = nI 8 from rfl, pk_mul, nI_add]
    rw [m_X7_isName_34_s, if_neg q, if_neg (show ¬ (1 : Int32) = 0 by decide), e8, gd_nI (by omega) (by omega), nI_clamp (by omega)]
    show pv_gd (nI b + nI i) 120 (if nmB w i = tp m (nI b + nI i).toNatClampNeg then m_X7_isName_34 (n + 1) (nI w) (nI z) 1 (nI i + 1) (mQ m f tk (nI b) ps val bad) else m_X7_isName_34 (n + 1) (nI w) (nI z) 0 (nI i + 1) (mQ m f tk (nI b) ps val bad)) = some (if tp m (b + i) = nmB w i then eqs (nmB w) (fun j => tp m (b + j)) k (i + 1) else 0)
    rw [nI_add, gd_nI (by omega) (by omega), nI_clamp (by omega), nI_1]
    by_cases c : tp m (b + i) = nmB w i
    · rw [if_pos c, if_pos c.symm]; exact nmL hw hz hb f tk ps val bad k (i + 1) (n + 1) (by omega) (by omega)
    · rw [if_neg c, if_neg (fun q => c q.symm), nm_0]
theorem isName_ok {m : pv_MT} {w : Nat} (hw : w < 10) {b z : Nat} (hz : b + z ≤ 120) (hl : ∀ j, j < z → ¬ m_X6_isWithin (tp m (b + j)) 97 122 = 0) (f : Nat → Int32) (tk ps val bad : Int32) : m_X7_isName (nI w) (nI z) (mQ m f tk (nI b) ps val bad) = some (mtv m b z w) := by
  have hn := tab_len ⟨w, hw⟩
  dsimp only at hn
  have no : m_X7_isName_29 (nI w) (nI z) (mQ m f tk (nI b) ps val bad) = some 0 := by
    have e : m_X7_isName_29 (nI w) (nI z) (mQ m f tk (nI b) ps val bad) = m_X7_isName_34 (299 + 1) (nI w) (nI z) 0 0 (mQ m f tk (nI b) ps val bad) := rfl
    rw [e, nm_0]
  have yes : z ≤ 8 → m_X7_isName_25 (nI w) (nI z) (mQ m f tk (nI b) ps val bad) = some (eqs (nmB w) (fun j => tp m (b + j)) z 0) := by
    intro h
    have e : m_X7_isName_25 (nI w) (nI z) (mQ m f tk (nI b) ps val bad) = m_X7_isName_34 300 (nI w) (nI z) 1 (nI 0) (mQ m f tk (nI b) ps val bad) := rfl
    rw [e]
    exact nmL hw h hz f tk ps val bad z 0 300 (by omega) (by omega)
  have long : z ≤ 8 → wlen w < z → eqs (nmB w) (fun j => tp m (b + j)) z 0 = 0 := by
    intro h h2
    refine eqs_zero _ _ z 0 (wlen w) (by omega) (by omega) fun q => ?_
    have h0 : nmB w (wlen w) = 0 := (tab_nm ⟨w, hw⟩ ⟨wlen w, by omega⟩).mpr (by dsimp only; omega)
    have q2 : tp m (b + wlen w) = 0 := q.trans h0
    have q3 := hl (wlen w) h2
    rw [q2] at q3
    exact q3 (by decide)
  unfold m_X7_isName
  by_cases c : 8 < z
  · rw [if_pos (show (8 : Int32) < nI z from nI_lt (a := 8) c (by omega)), no]
    unfold mtv
    rw [if_neg (by omega)]
  rw [if_neg (show ¬ (8 : Int32) < nI z from nI_nlt (a := 8) (by omega) (by omega))]
  by_cases c8 : z = 8
  · have q : nI z = 8 := by rw [c8]; rfl
    rw [if_pos q, yes (by omega)]
    unfold mtv
    by_cases d : z = wlen w
    · rw [if_pos d]
    · rw [if_neg d, long (by omega) (by omega)]
  have q : ¬ nI z = 8 := fun q => c8 (nI_inj32 (by omega) (by omega) q)
  have e8 : (8 : Int32) * nI w + nI z = nI (8 * w + z) := by rw [show (8 : Int32) = nI 8 from rfl, pk_mul, nI_add]
  rw [if_neg q, e8, gd_nI (by omega) (by omega), nI_clamp (by omega)]
  have t := tab_nm ⟨w, hw⟩ ⟨z, by omega⟩
  dsimp only at t
  by_cases d : z < wlen w
  · have h0 : ¬ pv_nam (8 * w + z) = 0 := fun q => t.mp q d
    rw [if_neg h0, no]
    unfold mtv
    rw [if_neg (by omega)]
  · have h0 : pv_nam (8 * w + z) = 0 := t.mpr d
    rw [if_pos h0, yes (by omega)]
    unfold mtv
    by_cases d2 : z = wlen w
    · rw [if_pos d2]
    · rw [if_neg d2, long (by omega) (by omega)]
theorem whL {m : pv_MT} {b e : Nat} (hb : b ≤ e) (he : e ≤ 120) (hl : ∀ j, j < e - b → ¬ m_X6_isWithin (tp m (b + j)) 97 122 = 0) (f : Nat → Int32) (tk val bad : Int32) : ∀ (k i n : Nat), i + k = 10 → k < n → (∀ w, w < i → mtv m b (e - b) w = 0) →
    ∃ rt, m_X7_wordHere_2 n (nI i) (mQ m f tk (nI b) (nI e) val bad) = some rt ∧ ((rt = 23 ∧ ∀ w, w < 10 → mtv m b (e - b) w = 0) ∨ ∃ w, w < 10 ∧ rt = nI w ∧ ¬ mtv m b (e - b) w = 0)
  | 0, i, n, hi, hn, h => by
    obtain ⟨n, rfl⟩ : ∃ n', n = n' + 1 := ⟨n - 1, by omega⟩
    have q : (10 : Int32) ≤ nI i := nI_le (a := 10) (by omega) (by omega)
    rw [m_X7_wordHere_2_s, if_pos q]
    unfold m_X7_wordHere_31
    rw [if_pos q]
    exact ⟨23, rfl, Or.inl ⟨rfl, fun w hw => h w (by omega)⟩⟩
  | k + 1, i, n, hi, hn, h => by
    obtain ⟨n, rfl⟩ : ∃ n', n = n' + 1 := ⟨n - 1, by omega⟩
    have q : ¬ (10 : Int32) ≤ nI i := nI_ge (b := 10) (by omega) (by omega)
    have e0 : m_X7_isName (nI i) (nI e - nI b) (mQ m f tk (nI b) (nI e) val bad) = some (mtv m b (e - b) i) := by
      rw [pk_sub hb]
      exact isName_ok (by omega) (by omega) hl f tk (nI e) val bad
    rw [m_X7_wordHere_2_s, if_neg q]
    show ∃ rt, (Option.bind (m_X7_isName (nI i) (nI e - nI b) (mQ m f tk (nI b) (nI e) val bad)) fun u => if u = 0 then m_X7_wordHere_2 n (nI i + 1) (mQ m f tk (nI b) (nI e) val bad) else m_X7_wordHere_31 (nI i) (mQ m f tk (nI b) (nI e) val bad)) = some rt ∧ _
    rw [e0, Option.bind_some]
    by_cases c : mtv m b (e - b) i = 0
    · rw [if_pos c, nI_1]
      refine whL hb he hl f tk val bad k (i + 1) n (by omega) (by omega) fun w hw => ?_
      by_cases d : w = i
      · subst d; exact c
      · exact h w (by omega)
    · rw [if_neg c]
      unfold m_X7_wordHere_31
      rw [if_neg q]
      exact ⟨nI i, rfl, Or.inr ⟨i, by omega, rfl, c⟩⟩
/-- the token of the reference tells which name it is -/
theorem wh_ok {m : pv_MT} {b e : Nat} (hb : b ≤ e) (he : e ≤ 120) (hl : ∀ j, j < e - b → ¬ m_X6_isWithin (tp m (b + j)) 97 122 = 0) (f : Nat → Int32) (tk val bad : Int32) :
    ∃ rt, m_X7_wordHere (mQ m f tk (nI b) (nI e) val bad) = some rt ∧ (rt = 23 ∨ ∃ w, w < 10 ∧ rt = nI w) ∧ ∀ w, w < 10 → mtv m b (e - b) w = if rt = nI w then 1 else 0 := by
  have e0 : m_X7_wordHere (mQ m f tk (nI b) (nI e) val bad) = m_X7_wordHere_2 300 (nI 0) (mQ m f tk (nI b) (nI e) val bad) := rfl
  rw [e0]
  obtain ⟨rt, h1, h2⟩ := whL hb he hl f tk val bad 10 0 300 (by omega) (by omega) (fun w hw => by omega)
  refine ⟨rt, h1, ?_, fun w hw => ?_⟩
  · rcases h2 with ⟨h, -⟩ | ⟨w, hw, h, -⟩
    · exact Or.inl h
    · exact Or.inr ⟨w, hw, h⟩
  · rcases h2 with ⟨h, h3⟩ | ⟨v, hv, h, h3⟩
    · have : ¬ rt = nI w := by rw [h]; exact fun q => absurd (nI_inj32 (a := 23) (by omega) (by omega) q) (by omega)
      rw [if_neg this]; exact h3 w hw
    · subst h
      by_cases c : v = w
      · subst c
        rw [if_pos rfl]
        rcases mtv_01 m b (e - b) v with q | q
        · exact absurd q h3
        · exact q
      · rw [if_neg (fun q => c (nI_inj32 (by omega) (by omega) q))]
        rcases mtv_01 m b (e - b) w with q | q
        · exact q
        · exfalso
          have h4 : ¬ mtv m b (e - b) w = 0 := by rw [q]; decide
          obtain ⟨a1, a2⟩ := mtv_1 h3
          obtain ⟨b1, b2⟩ := mtv_1 h4
          rcases tab_ne ⟨v, hv⟩ ⟨w, hw⟩ with t | t | ⟨j, t1, t2⟩
          · exact c t
          · exact t (a1.symm.trans b1)
          · dsimp only at t1 t2
            exact t2 ((a2 j.val (by omega)).symm.trans (b2 j.val (by omega)))
