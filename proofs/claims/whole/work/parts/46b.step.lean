/-! ONE TOKEN MORE, ON BOTH SIDES -/
def rdR (m : pv_MT) (f : Nat → Int32) (tk ps bad : Int32) : Option pv_MT :=
  if ps = td m then some (mQ m f 22 ps ps 0 bad) else Option.bind (m_X7_isByte ps 97 122 (mQ m f tk ps ps 0 bad)) fun u4 => if u4 = 0 then (Option.bind (m_X7_isByte ps 48 57 (mQ m f tk ps ps 0 bad)) fun u6 => if u6 = 0 then (Option.bind (m_X7_isByte ps 59 59 (mQ m f tk ps ps 0 bad)) fun u8 => if u8 = 0 then some (mQ m f 23 ps (ps + 1) 0 bad) else some (mQ m f 21 ps (ps + 1) 0 bad)) else m_X7_reads_130 300 (mQ m f tk ps ps 0 bad)) else m_X7_reads_76 300 (mQ m f tk ps ps 0 bad)
theorem rd0_m (n : Nat) (m : pv_MT) (f : Nat → Int32) (tk beg ps val bad : Int32) : m_X7_reads_0 (n + 1) (mQ m f tk beg ps val bad) = (Option.bind (m_X7_isByte ps 32 32 (mQ m f tk beg ps val bad)) fun u => if u = 0 then rdR m f tk ps bad else m_X7_reads_0 n (mQ m f tk beg (ps + 1) val bad)) := rfl
theorem st_x (n : Nat) (P : pv_PT) (tok st pl val : Int32) : m_X5_step_0 (n + 1) (pQ P tok st pl val) = (if P.2.1 ≤ pl then m_X5_step_38 (pQ P tok st pl val) else pv_gd pl 120 (if P.1 pl.toNatClampNeg = 32 then m_X5_step_0 n (pQ P tok st (pl + 1) val) else m_X5_step_38 (pQ P tok st pl val))) := rfl
theorem st38_x (P : pv_PT) (tok st pl val : Int32) : m_X5_step_38 (pQ P tok st pl val) = (if pl < P.2.1 then pv_gd pl 120 (if m_X5_isLetter (P.1 pl.toNatClampNeg) = 0 then pv_gd pl 120 (if m_X5_isDigit (P.1 pl.toNatClampNeg) = 0 then pv_gd pl 120 (if P.1 pl.toNatClampNeg = 59 then some (pQ P 3 pl (pl + 1) val) else some (pQ P 4 pl (pl + 1) val)) else (Option.bind (m_X5_stepNumber_10 300 (pQ P 2 pl pl 0)) fun u => some u)) else (Option.bind (m_X5_stepWord_5 300 (pQ P 1 pl pl val)) fun u => some u)) else some (pQ P 0 pl pl val)) := rfl
theorem bind_id {α : Type} (o : Option α) : (Option.bind o fun u => some u) = o := by cases o <;> rfl
theorem blankL {P : pv_PT} {m : pv_MT} {L : Nat} (hT : TP P m L) (f : Nat → Int32) (tok st cv tk beg rv bad : Int32) : ∀ (k p n n2 : Nat), p + k = L → k < n → k < n2 →
    ∃ q, p ≤ q ∧ q ≤ L ∧ m_X5_step_0 n (pQ P tok st (nI p) cv) = m_X5_step_38 (pQ P tok st (nI q) cv) ∧ m_X7_reads_0 n2 (mQ m f tk beg (nI p) rv bad) = rdR m f tk (nI q) bad
  | 0, p, n, n2, hp, hn, hn2 => by
    obtain ⟨n, rfl⟩ : ∃ n', n = n' + 1 := ⟨n - 1, by omega⟩
    obtain ⟨n2, rfl⟩ : ∃ n', n2 = n' + 1 := ⟨n2 - 1, by omega⟩
    obtain ⟨h1, h2, h3, h4⟩ := hT
    have q : P.2.1 ≤ nI p := by rw [h2]; exact nI_le (by omega) (by omega)
    rw [st_x, rd0_m, if_pos q, byte_ok h3 h4 (by omega), if_neg (show ¬ p < L by omega), Option.bind_some, if_pos rfl]
    exact ⟨p, Nat.le_refl _, by omega, rfl, rfl⟩
  | k + 1, p, n, n2, hp, hn, hn2 => by
    obtain ⟨n, rfl⟩ : ∃ n', n = n' + 1 := ⟨n - 1, by omega⟩
    obtain ⟨n2, rfl⟩ : ∃ n', n2 = n' + 1 := ⟨n2 - 1, by omega⟩
    obtain ⟨h1, h2, h3, h4⟩ := id hT
    have q : ¬ P.2.1 ≤ nI p := by rw [h2]; exact nI_ge (by omega) (by omega)
    have b32 : m_X6_isWithin (tp m p) 32 32 = if tp m p = 32 then 1 else 0 := iw_eq (tp m p) (c := 32) (by omega)
    rw [st_x, rd0_m, if_neg q, gd_nI (by omega) (by omega), nI_clamp (by omega), h1 p (by omega), byte_ok h3 h4 (by omega), if_pos (show p < L by omega), Option.bind_some, b32]
    by_cases z : tp m p = 32
    · rw [if_pos z, if_pos z, if_neg (show ¬ (1 : Int32) = 0 by decide), nI_1]
      obtain ⟨q, e1, e2, e3, e4⟩ := blankL hT f tok st cv tk beg rv bad k (p + 1) n n2 (by omega) (by omega) (by omega)
      exact ⟨q, by omega, e2, e3, e4⟩
    · rw [if_neg z, if_neg z, if_pos rfl]
      exact ⟨p, Nat.le_refl _, by omega, rfl, rfl⟩
def TK (ct rt cv rv : Int32) (p : pv_PT) : Prop := ((ct = 0 ∧ rt = 22) ∨ (ct = 3 ∧ rt = 21) ∨ (ct = 2 ∧ rt = 20 ∧ VR cv rv) ∨ (ct = 4 ∧ rt = 23) ∨ (ct = 1 ∧ (rt = 23 ∨ ∃ w, w < 10 ∧ rt = nI w))) ∧ ∀ w, w < 10 → m_X5_isWord w p = some (if rt = nI w then 1 else 0)
theorem big_ne {w : Nat} (hw : w < 10) : ¬ (22 : Int32) = nI w ∧ ¬ (21 : Int32) = nI w ∧ ¬ (20 : Int32) = nI w ∧ ¬ (23 : Int32) = nI w :=
  ⟨fun q => absurd (nI_inj32 (a := 22) (by omega) (by omega) q) (by omega), fun q => absurd (nI_inj32 (a := 21) (by omega) (by omega) q) (by omega), fun q => absurd (nI_inj32 (a := 20) (by omega) (by omega) q) (by omega), fun q => absurd (nI_inj32 (a := 23) (by omega) (by omega) q) (by omega)⟩
theorem rest_ok {P : pv_PT} {m : pv_MT} {L : Nat} (hT : TP P m L) {q : Nat} (hq : q ≤ L) (f : Nat → Int32) (tok st cv0 tk bad : Int32) :
    ∃ ct rt cv rv e, q ≤ e ∧ e ≤ L ∧ (¬ ct = 0 → q < e) ∧ m_X5_step_38 (pQ P tok st (nI q) cv0) = some (pQ P ct (nI q) (nI e) cv) ∧ rdR m f tk (nI q) bad = some (mQ m f rt (nI q) (nI e) rv bad) ∧ TK ct rt cv rv (pQ P ct (nI q) (nI e) cv) := by
  obtain ⟨h1, h2, h3, h4⟩ := id hT
  unfold rdR
  rw [st38_x, h2, h3]
  by_cases c : q = L
  · subst c
    rw [if_neg (nI_nlt (Nat.le_refl q) (by omega)), if_pos rfl]
    refine ⟨0, 22, cv0, 0, q, Nat.le_refl _, Nat.le_refl _, fun a => absurd rfl a, rfl, rfl, Or.inl ⟨rfl, rfl⟩, fun w hw => ?_⟩
    rw [isWord_no (by decide), if_neg (big_ne hw).1]
  have hq2 : q < L := by omega
  have c2 : ¬ nI q = nI L := fun a => c (nI_inj32 (by omega) (by omega) a)
  rw [if_pos (nI_lt hq2 (by omega)), if_neg c2, gd_nI (by omega) (by omega), gd_nI (by omega) (by omega), gd_nI (by omega) (by omega), nI_clamp (by omega), h1 q (by omega), let_eq, dig_eq, byte_ok h3 h4 hq, byte_ok h3 h4 hq, byte_ok h3 h4 hq, if_pos hq2, if_pos hq2, if_pos hq2, Option.bind_some, Option.bind_some, Option.bind_some, bind_id, bind_id]
  by_cases z : m_X6_isWithin (tp m q) 97 122 = 0
  · rw [if_pos z, if_pos z]
    by_cases y : m_X6_isWithin (tp m q) 48 57 = 0
    · have b59 : m_X6_isWithin (tp m q) 59 59 = if tp m q = 59 then 1 else 0 := iw_eq (tp m q) (c := 59) (by omega)
      rw [if_pos y, if_pos y, b59]
      by_cases s : tp m q = 59
      · rw [if_pos s, if_pos s, if_neg (show ¬ (1 : Int32) = 0 by decide), nI_1]
        refine ⟨3, 21, cv0, 0, q + 1, by omega, by omega, fun _ => by omega, rfl, rfl, Or.inr (Or.inl ⟨rfl, rfl⟩), fun w hw => ?_⟩
        rw [isWord_no (by decide), if_neg (big_ne hw).2.1]
      · rw [if_neg s, if_neg s, if_pos rfl, nI_1]
        refine ⟨4, 23, cv0, 0, q + 1, by omega, by omega, fun _ => by omega, rfl, rfl, Or.inr (Or.inr (Or.inr (Or.inl ⟨rfl, rfl⟩))), fun w hw => ?_⟩
        rw [isWord_no (by decide), if_neg (big_ne hw).2.2.2]
    · rw [if_neg y, if_neg y]
      obtain ⟨e, cv', rv', e1, e2, e3, e4, e5, e6⟩ := numL hT f 2 (nI q) tk (nI q) bad (L - q) q 300 300 0 0 (by omega) (by omega) (by omega) (Or.inl ⟨0, by omega, rfl, rfl⟩)
      rw [e5, e6]
      refine ⟨2, 20, cv', rv', e, e1, e2, fun _ => e4 hq2 y, rfl, rfl, Or.inr (Or.inr (Or.inl ⟨rfl, rfl, e3⟩)), fun w hw => ?_⟩
      rw [isWord_no (by decide), if_neg (big_ne hw).2.2.1]
  · rw [if_neg z, if_neg z]
    obtain ⟨e, e1, e2, e3, e4, e5, e6⟩ := wordL hT f 1 (nI q) cv0 tk (nI q) 0 bad (L - q) q 300 300 (by omega) (by omega) (by omega)
    obtain ⟨rt, w1, w2, w3⟩ := wh_ok (m := m) (b := q) (e := e) e1 (by omega) (fun j hj => e3 (q + j) (by omega) (by omega)) f tk 0 bad
    rw [e5, e6, w1]
    refine ⟨1, rt, cv0, 0, e, e1, e2, fun _ => e4 hq2 z, rfl, rfl, Or.inr (Or.inr (Or.inr (Or.inr ⟨rfl, w2⟩))), fun w hw => ?_⟩
    rw [isWord_ok hT hw e1 e2, w3 w hw]
theorem step_ok {P : pv_PT} {m : pv_MT} {L : Nat} (hT : TP P m L) {p : Nat} (hp : p ≤ L) (f : Nat → Int32) (tok st cv0 tk beg rv0 bad : Int32) :
    ∃ ct rt cv rv b e, p ≤ b ∧ b ≤ e ∧ e ≤ L ∧ (¬ ct = 0 → b < e) ∧ m_X5_step (pQ P tok st (nI p) cv0) = some (pQ P ct (nI b) (nI e) cv) ∧ m_X7_reads (mQ m f tk beg (nI p) rv0 bad) = some (mQ m f rt (nI b) (nI e) rv bad) ∧ TK ct rt cv rv (pQ P ct (nI b) (nI e) cv) := by
  have hL : L ≤ 120 := hT.2.2.2
  have e1 : m_X5_step (pQ P tok st (nI p) cv0) = m_X5_step_0 300 (pQ P tok st (nI p) cv0) := rfl
  have e2 : m_X7_reads (mQ m f tk beg (nI p) rv0 bad) = m_X7_reads_0 300 (mQ m f tk beg (nI p) rv0 bad) := rfl
  rw [e1, e2]
  obtain ⟨q, q1, q2, q3, q4⟩ := blankL hT f tok st cv0 tk beg rv0 bad (L - p) p 300 300 (by omega) (by omega) (by omega)
  obtain ⟨ct, rt, cv, rv, e, r1, r2, r3, r4, r5, r6⟩ := rest_ok hT q2 f tok st cv0 tk bad
  rw [q3, q4]
  exact ⟨ct, rt, cv, rv, q, e, q1, r1, r2, r3, r4, r5, r6⟩
