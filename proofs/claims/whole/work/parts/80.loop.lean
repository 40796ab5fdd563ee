/-! THE CLAIM OUT OF ONE WALK OF THE LAW'S BODY. Your part is whole_start (and what it stands on); all else here is the same for every law, but numbers. -/
def R_law : String := "ProvinceCardsLaw"
def lw_P (b : Addr) (xs : List Int32) (args : Array Value) (s : State) : Prop := args = #[.ref b] ∧ s.IntsAt b xs ∧ xs.length ≤ 3072 ∧ (Jvm.Cond.and given_1 narrow_1).before args s = true
def lw_Q (_ : Array Value) (s : State) (o : Outcome) (t : State) : Prop := o = .returned (some (.int 1)) ∧ Framed s o t [] 600000 7302250
def lw_Z (below : List Frame) (a : Array Value) (s : State) : State → Prop := fun t => ∃ o, t.status = .running ∧ Ended t below o ∧ lw_Q a s o t
/-- the law's own end, with 1 on the stack, nothing written that was there before, its room as the claim has it -/
theorem lw_ret {p : Program} {l : Launch} {e : Env} {s : State} {m : MethodId} {below : List Frame} {meth : Method} {c : Code} {b : Nat} (hx : p.tables.exec = Jvm.exec) (hb : c.code = code) (hr : meth.sig.returnType = ret) (hlocks : meth.locks = false) {pc : Nat} {H : Heap} {ls : Array Slot} (hdg : decode code pc = .ok (.ireturn, 1)) : W p l e room_1 s m #[Value.ref b] below meth c H [] 600000 7302250 (lw_Z below #[Value.ref b] s) (F0 m pc ls [.int 1]) := by
  intro T hT X
  obtain ⟨fs, hret, hrun, hended, hW, hframe⟩ := X.leave (v := some (.int 1)) (hlocks := hlocks) (fun h => by rw [hr] at h; cases h)
  have hmeth' : T.vm.method? m = some meth := X.method'
  refine ⟨T.setFrames fs, ?_, .returned (some (.int 1)), hrun, hended, rfl, ⟨_, rfl⟩, hW, hframe⟩
  jvm_step X.here [X.here.top, hx, hb, hdg, hmeth', hr, ret, narrow_b1]
  (try refine ⟨rfl, ?_⟩); (try refine ⟨rfl, ?_⟩)
  first | (intro acts; rw [hret _ acts rfl rfl rfl]) | rw [hret _ _ rfl rfl rfl]
  exact Steps.refl _
/-- what holds at the law's entry: the machine, the code, the tables' words (any of lw_tbl by 'hts w (by decide +kernel)'), the script of L ints xs at the cell b, what the Statement gives of the start (any of its parts by flat_of_before) -/
def lw_At (p : Program) (s : State) (m : MethodId) (meth : Method) (c : Code) (b L : Nat) (xs : Nat → Int32) : Prop :=
  p.tables.exec = Jvm.exec ∧ c.code = code ∧ meth.sig.returnType = ret ∧ c.maxLocals = 4 ∧ s.vm.findClass R_law = some m.cls ∧ (∀ w ∈ lw_tbl, w.before #[Value.ref b] s = true) ∧ va_X b L xs s s.heap ∧ b < s.heap.size ∧ meth.locks = false ∧ (Jvm.Cond.and given_1 narrow_1).before #[Value.ref b] s = true
theorem pv_split {D : va_G} {cl : List vw_C} {wa wb : va_W} {H : Heap} (h : va_P D cl (wa ++ wb) H) : va_P D cl wa H ∧ va_P D cl wb H := by
  refine ⟨fun k q hk => h k q ?_, fun k q hk => h (wa.length + k) q ?_⟩
  · rw [List.getElem?_append_left (List.getElem?_eq_some_iff.mp hk).1]; exact hk
  · rw [List.getElem?_append_right (by omega), show wa.length + k - wa.length = k by omega]; exact hk
theorem pv_splitD {A : Nat → Prop} {wa wb : va_W} (h : va_D A (wa ++ wb)) : va_D A wa ∧ va_D A wb ∧ ∀ (i j : Nat) (p q : Nat × va_E), wa[i]? = some p → wb[j]? = some q → p.1 ≠ q.1 := by
  have hl : ∀ (k : Nat) (q : Nat × va_E), wa[k]? = some q → (wa ++ wb)[k]? = some q := fun k q hk => by
    rw [List.getElem?_append_left (List.getElem?_eq_some_iff.mp hk).1]; exact hk
  have hr : ∀ (k : Nat) (q : Nat × va_E), wb[k]? = some q → (wa ++ wb)[wa.length + k]? = some q := fun k q hk => by
    rw [List.getElem?_append_right (by omega), show wa.length + k - wa.length = k by omega]; exact hk
  refine ⟨⟨fun i j p q hi hj e => h.1 i j p q (hl i p hi) (hl j q hj) e, fun k q hk => h.2 k q (hl k q hk)⟩, ⟨fun i j p q hi hj e => ?_, fun k q hk => h.2 _ q (hr k q hk)⟩, fun i j p q hi hj e => ?_⟩
  · have := h.1 _ _ p q (hr i p hi) (hr j q hj) e
    omega
  · have h1 := h.1 _ _ p q (hl i p hi) (hr j q hj) e
    have h2 := (List.getElem?_eq_some_iff.mp hi).1
    omega
theorem lw_bound {i L : Nat} (hL : L ≤ 3072) (hi : i ≤ 4000) : (nI L - 6 < nI i) ↔ ¬ i + 6 ≤ L := by
  have h1 : (nI L - nI 6).toInt = (L : Int) - 6 := pk_sub_toInt (by omega) (by omega)
  have h2 : (nI i).toInt = (i : Int) := nI_toInt (by omega)
  rw [show (6 : Int32) = nI 6 from rfl, Int32.lt_iff_toInt_lt, h1, h2]
  omega
set_option maxHeartbeats 4000000 in
set_option maxRecDepth 100000 in
theorem law_loop {p : Program} {l : Launch} {e : Env} {s : State} {m : MethodId} {below : List Frame} {meth : Method} {c : Code} {b L : Nat} {xs : Nat → Int32} {E : pv_E} {a : Nat → Nat} {b0 b1 b2 b3 b4 b5 b6 b7 b8 b9 b10 : Nat} (C0 : lw_C p s m meth c b L xs E a b0 b1 b2 b3 b4 b5 b6 b7 b8 b9 b10) (hr : meth.sig.returnType = ret) (hlocks : meth.locks = false) (hL : L ≤ 3072) :
    ∀ (n i : Nat) (x : pv_XT) (mm : pv_MT), L ≤ i + n → i ≤ 4000 → Rel x mm → ∀ (H : Heap) (locs : List Loc) (ls : Array Slot), va_P E.1 vwCl (pv_wX E a x) H → va_P E.1 vwCl (pv_wM E b0 b1 b2 b3 b4 b5 b6 b7 b8 b9 b10 mm) H → va_S (fun q : Nat => s.heap.size ≤ q) s.heap H locs → lv_has ls 4 [(0, .ref b), (1, .ref (a 0)), (2, .ref b0), (3, .int (nI i))] → W p l e room_1 s m #[Value.ref b] below meth c H locs 48 871 (lw_Z below #[Value.ref b] s) (F0 m 18 ls []) := by
  obtain ⟨hx, hb, hml, hown, hts, hX, hbl, hE, hDa, hDb, hXM⟩ := id C0
  have hbA : ¬ (fun q : Nat => s.heap.size ≤ q) b := Nat.not_le.mpr hbl
  intro n
  induction n using Nat.strongRecOn with
  | ind n ih =>
  intro i x mm hn hi4 hR H locs ls hPa hPb hS hl
  refine lv_iload_n (pc := 18) hx hb dL_law_18 rfl (lv_at hl 3 rfl) ?_
  refine lv_aload_n (pc := 19) hx hb dL_law_19 rfl (lv_at hl 0 rfl) ?_
  refine va_slen (pc := 20) hx hb hX hbl hbA hS dL_law_20 ?_
  refine lv_bipush (pc := 21) (v := 6) hx hb dL_law_21 (by decide) ?_
  refine lv_isub (pc := 23) hx hb dL_law_23 ?_
  refine lv_icmp_gt (pc := 24) (tgt := 1452) hx hb dL_law_24 (by decide) (fun c1 => ?_) (fun c1 => ?_)
  · refine lv_iconst (pc := 1452) (v := 1) hx hb dL_law_1452 (by decide) ?_
    refine va_forget (fun q hq => hS.2.2 q hq) ?_
    refine W.widen (k := 600000) (n := 7302250) (Nat.le_of_ble_eq_true rfl) (Nat.le_of_ble_eq_true rfl) ?_
    exact lw_ret (pc := 1453) hx hb hr hlocks dL_law_1453
  have hi : i + 6 ≤ L := Classical.byContradiction fun hc => c1 ((lw_bound hL hi4).mpr hc)
  have K : ∀ (x2 : pv_XT) (m2 : pv_MT), Rel x2 m2 → ∀ (H : Heap) (locs : List Loc) (ls : Array Slot), va_P E.1 vwCl (pv_wX E a x2) H → va_P E.1 vwCl (pv_wM E b0 b1 b2 b3 b4 b5 b6 b7 b8 b9 b10 m2) H → va_S (fun q : Nat => s.heap.size ≤ q) s.heap H locs → lv_has ls 4 [(0, .ref b), (1, .ref (a 0)), (2, .ref b0), (3, .int (nI i))] → W p l e room_1 s m #[Value.ref b] below meth c H locs 48 871 (lw_Z below #[Value.ref b] s) (F0 m 1446 ls []) := by
    intro x2 m2 hR2 H locs ls hPa hPb hS hl
    refine lv_iinc (pc := 1446) (v := nI (i + 6)) (lv' := [(3, .int (nI (i + 6))), (0, .ref b), (1, .ref (a 0)), (2, .ref b0)]) hx hb dL_law_1446 hl (k := 3) rfl (by rw [show Int32.ofInt 6 = nI 6 from rfl, nI_add]) (Nat.le_of_ble_eq_true rfl) rfl (fun ls hl => ?_)
    refine lv_goto (pc := 1449) (tgt := 18) hx hb dL_law_1449 (by decide) ?_
    exact ih (n - 6) (by omega) (i + 6) x2 m2 (by omega) (by omega) hR2 H locs ls hPa hPb hS (lv_sub hl [1, 2, 3, 0] rfl)
  refine lv_aload_n (pc := 27) hx hb dL_law_27 rfl (lv_at hl 0 rfl) ?_
  refine lv_iload_n (pc := 28) hx hb dL_law_28 rfl (lv_at hl 3 rfl) ?_
  refine va_sld (pc := 29) hx hb hX hbl hbA hS (vp_in_nI (by omega) (by omega)) dL_law_29 ?_
  refine lv_bipush (pc := 30) (v := 63) hx hb dL_law_30 (by decide) ?_
  refine lv_iand (pc := 32) hx hb dL_law_32 ?_
  generalize xs (nI i).toNatClampNeg &&& 63 = v
  by_cases g0 : v = 0
  · refine lv_tableIn (pc := 33) (tgt := 212) (off := 179) hx hb dL_law_33 (by rw [g0]; decide) (by rw [g0]; decide) (by rw [g0]; rfl) (by decide) ?_
    obtain ⟨r, x2, m2, h1, h2, hR2⟩ := sim_mix (xs (nI (i + 1)).toNatClampNeg) x mm hR
    exact law_c0 C0 hL i hi _ x x2 mm m2 r h1 h2 (K x2 m2 hR2) H locs ls hPa hPb hS hl
  by_cases g1 : v = 1
  · refine lv_tableIn (pc := 33) (tgt := 235) (off := 202) hx hb dL_law_33 (by rw [g1]; decide) (by rw [g1]; decide) (by rw [g1]; rfl) (by decide) ?_
    obtain ⟨r, x2, m2, h1, h2, hR2⟩ := sim_province (xs (nI (i + 1)).toNatClampNeg) (xs (nI (i + 2)).toNatClampNeg) x mm hR
    exact law_c1 C0 hL i hi _ x x2 mm m2 r h1 h2 (K x2 m2 hR2) H locs ls hPa hPb hS hl
  by_cases g2 : v = 2
  · refine lv_tableIn (pc := 33) (tgt := 268) (off := 235) hx hb dL_law_33 (by rw [g2]; decide) (by rw [g2]; decide) (by rw [g2]; rfl) (by decide) ?_
    obtain ⟨r, x2, m2, h1, h2, hR2⟩ := sim_whose (xs (nI (i + 1)).toNatClampNeg) x mm hR
    exact law_c2 C0 hL i hi _ x x2 mm m2 r h1 h2 (K x2 m2 hR2) H locs ls hPa hPb hS hl
  by_cases g3 : v = 3
  · refine lv_tableIn (pc := 33) (tgt := 291) (off := 258) hx hb dL_law_33 (by rw [g3]; decide) (by rw [g3]; decide) (by rw [g3]; rfl) (by decide) ?_
    obtain ⟨r, x2, m2, h1, h2, hR2⟩ := sim_treasury (xs (nI (i + 1)).toNatClampNeg) (xs (nI (i + 2)).toNatClampNeg) x mm hR
    exact law_c3 C0 hL i hi _ x x2 mm m2 r h1 h2 (K x2 m2 hR2) H locs ls hPa hPb hS hl
  by_cases g4 : v = 4
  · refine lv_tableIn (pc := 33) (tgt := 324) (off := 291) hx hb dL_law_33 (by rw [g4]; decide) (by rw [g4]; decide) (by rw [g4]; rfl) (by decide) ?_
    obtain ⟨r, x2, m2, h1, h2, hR2⟩ := sim_now (xs (nI (i + 1)).toNatClampNeg) x mm hR
    exact law_c4 C0 hL i hi _ x x2 mm m2 r h1 h2 (K x2 m2 hR2) H locs ls hPa hPb hS hl
  by_cases g5 : v = 5
  · refine lv_tableIn (pc := 33) (tgt := 347) (off := 314) hx hb dL_law_33 (by rw [g5]; decide) (by rw [g5]; decide) (by rw [g5]; rfl) (by decide) ?_
    obtain ⟨r, x2, m2, h1, h2, hR2⟩ := sim_card (xs (nI (i + 1)).toNatClampNeg) (xs (nI (i + 2)).toNatClampNeg) x mm hR
    exact law_c5 C0 hL i hi _ x x2 mm m2 r h1 h2 (K x2 m2 hR2) H locs ls hPa hPb hS hl
  by_cases g6 : v = 6
  · refine lv_tableIn (pc := 33) (tgt := 380) (off := 347) hx hb dL_law_33 (by rw [g6]; decide) (by rw [g6]; decide) (by rw [g6]; rfl) (by decide) ?_
    obtain ⟨r, x2, m2, h1, h2, hR2⟩ := sim_envoy (xs (nI (i + 1)).toNatClampNeg) x mm hR
    exact law_c6 C0 hL i hi _ x x2 mm m2 r h1 h2 (K x2 m2 hR2) H locs ls hPa hPb hS hl
  by_cases g7 : v = 7
  · refine lv_tableIn (pc := 33) (tgt := 403) (off := 370) hx hb dL_law_33 (by rw [g7]; decide) (by rw [g7]; decide) (by rw [g7]; rfl) (by decide) ?_
    obtain ⟨r, x2, m2, h1, h2, hR2⟩ := sim_of (xs (nI (i + 1)).toNatClampNeg) (xs (nI (i + 2)).toNatClampNeg) x mm hR
    exact law_c7 C0 hL i hi _ x x2 mm m2 r h1 h2 (K x2 m2 hR2) H locs ls hPa hPb hS hl
  by_cases g8 : v = 8
  · refine lv_tableIn (pc := 33) (tgt := 436) (off := 403) hx hb dL_law_33 (by rw [g8]; decide) (by rw [g8]; decide) (by rw [g8]; rfl) (by decide) ?_
    obtain ⟨r, x2, m2, h1, h2, hR2⟩ := sim_turn (xs (nI (i + 1)).toNatClampNeg) (xs (nI (i + 2)).toNatClampNeg) x mm hR
    exact law_c8 C0 hL i hi _ x x2 mm m2 r h1 h2 (K x2 m2 hR2) H locs ls hPa hPb hS hl
  by_cases g9 : v = 9
  · refine lv_tableIn (pc := 33) (tgt := 469) (off := 436) hx hb dL_law_33 (by rw [g9]; decide) (by rw [g9]; decide) (by rw [g9]; rfl) (by decide) ?_
    obtain ⟨r, x2, m2, h1, h2, hR2⟩ := sim_as (xs (nI (i + 1)).toNatClampNeg) (xs (nI (i + 2)).toNatClampNeg) x mm hR
    exact law_c9 C0 hL i hi _ x x2 mm m2 r h1 h2 (K x2 m2 hR2) H locs ls hPa hPb hS hl
  by_cases g10 : v = 10
  · refine lv_tableIn (pc := 33) (tgt := 502) (off := 469) hx hb dL_law_33 (by rw [g10]; decide) (by rw [g10]; decide) (by rw [g10]; rfl) (by decide) ?_
    obtain ⟨r, x2, m2, h1, h2, hR2⟩ := sim_won (xs (nI (i + 1)).toNatClampNeg) (xs (nI (i + 2)).toNatClampNeg) x mm hR
    exact law_c10 C0 hL i hi _ x x2 mm m2 r h1 h2 (K x2 m2 hR2) H locs ls hPa hPb hS hl
  by_cases g11 : v = 11
  · refine lv_tableIn (pc := 33) (tgt := 535) (off := 502) hx hb dL_law_33 (by rw [g11]; decide) (by rw [g11]; decide) (by rw [g11]; rfl) (by decide) ?_
    obtain ⟨r, x2, m2, h1, h2, hR2⟩ := sim_send (xs (nI (i + 1)).toNatClampNeg) (xs (nI (i + 2)).toNatClampNeg) x mm hR
    exact law_c11 C0 hL i hi _ x x2 mm m2 r h1 h2 (K x2 m2 hR2) H locs ls hPa hPb hS hl
  by_cases g12 : v = 12
  · refine lv_tableIn (pc := 33) (tgt := 568) (off := 535) hx hb dL_law_33 (by rw [g12]; decide) (by rw [g12]; decide) (by rw [g12]; rfl) (by decide) ?_
    obtain ⟨r, x2, m2, h1, h2, hR2⟩ := sim_leads (xs (nI (i + 1)).toNatClampNeg) (xs (nI (i + 2)).toNatClampNeg) x mm hR
    exact law_c12 C0 hL i hi _ x x2 mm m2 r h1 h2 (K x2 m2 hR2) H locs ls hPa hPb hS hl
  by_cases g13 : v = 13
  · refine lv_tableIn (pc := 33) (tgt := 601) (off := 568) hx hb dL_law_33 (by rw [g13]; decide) (by rw [g13]; decide) (by rw [g13]; rfl) (by decide) ?_
    obtain ⟨r, x2, m2, h1, h2, hR2⟩ := sim_follows (xs (nI (i + 1)).toNatClampNeg) (xs (nI (i + 2)).toNatClampNeg) (xs (nI (i + 3)).toNatClampNeg) x mm hR
    exact law_c13 C0 hL i hi _ x x2 mm m2 r h1 h2 (K x2 m2 hR2) H locs ls hPa hPb hS hl
  by_cases g14 : v = 14
  · refine lv_tableIn (pc := 33) (tgt := 644) (off := 611) hx hb dL_law_33 (by rw [g14]; decide) (by rw [g14]; decide) (by rw [g14]; rfl) (by decide) ?_
    obtain ⟨r, x2, m2, h1, h2, hR2⟩ := sim_trick (xs (nI (i + 1)).toNatClampNeg) (xs (nI (i + 2)).toNatClampNeg) x mm hR
    exact law_c14 C0 hL i hi _ x x2 mm m2 r h1 h2 (K x2 m2 hR2) H locs ls hPa hPb hS hl
  by_cases g15 : v = 15
  · refine lv_tableIn (pc := 33) (tgt := 677) (off := 644) hx hb dL_law_33 (by rw [g15]; decide) (by rw [g15]; decide) (by rw [g15]; rfl) (by decide) ?_
    obtain ⟨r, x2, m2, h1, h2, hR2⟩ := sim_tricks x mm hR
    exact law_c15 C0 hL i hi _ x x2 mm m2 r h1 h2 (K x2 m2 hR2) H locs ls hPa hPb hS hl
  by_cases g16 : v = 16
  · refine lv_tableIn (pc := 33) (tgt := 690) (off := 657) hx hb dL_law_33 (by rw [g16]; decide) (by rw [g16]; decide) (by rw [g16]; rfl) (by decide) ?_
    obtain ⟨r, x2, m2, h1, h2, hR2⟩ := sim_months (xs (nI (i + 1)).toNatClampNeg) x mm hR
    exact law_c16 C0 hL i hi _ x x2 mm m2 r h1 h2 (K x2 m2 hR2) H locs ls hPa hPb hS hl
  by_cases g17 : v = 17
  · refine lv_tableIn (pc := 33) (tgt := 713) (off := 680) hx hb dL_law_33 (by rw [g17]; decide) (by rw [g17]; decide) (by rw [g17]; rfl) (by decide) ?_
    obtain ⟨r, x2, m2, h1, h2, hR2⟩ := sim_on (xs (nI (i + 1)).toNatClampNeg) (xs (nI (i + 2)).toNatClampNeg) x mm hR
    exact law_c17 C0 hL i hi _ x x2 mm m2 r h1 h2 (K x2 m2 hR2) H locs ls hPa hPb hS hl
  by_cases g18 : v = 18
  · refine lv_tableIn (pc := 33) (tgt := 746) (off := 713) hx hb dL_law_33 (by rw [g18]; decide) (by rw [g18]; decide) (by rw [g18]; rfl) (by decide) ?_
    obtain ⟨r, x2, m2, h1, h2, hR2⟩ := sim_then (xs (nI (i + 1)).toNatClampNeg) (xs (nI (i + 2)).toNatClampNeg) (xs (nI (i + 3)).toNatClampNeg) x mm hR
    exact law_c18 C0 hL i hi _ x x2 mm m2 r h1 h2 (K x2 m2 hR2) H locs ls hPa hPb hS hl
  by_cases g19 : v = 19
  · refine lv_tableIn (pc := 33) (tgt := 789) (off := 756) hx hb dL_law_33 (by rw [g19]; decide) (by rw [g19]; decide) (by rw [g19]; rfl) (by decide) ?_
    obtain ⟨r, x2, m2, h1, h2, hR2⟩ := sim_when (xs (nI (i + 1)).toNatClampNeg) (xs (nI (i + 2)).toNatClampNeg) x mm hR
    exact law_c19 C0 hL i hi _ x x2 mm m2 r h1 h2 (K x2 m2 hR2) H locs ls hPa hPb hS hl
  by_cases g20 : v = 20
  · refine lv_tableIn (pc := 33) (tgt := 822) (off := 789) hx hb dL_law_33 (by rw [g20]; decide) (by rw [g20]; decide) (by rw [g20]; rfl) (by decide) ?_
    obtain ⟨r, x2, m2, h1, h2, hR2⟩ := sim_all (xs (nI (i + 1)).toNatClampNeg) x mm hR
    exact law_c20 C0 hL i hi _ x x2 mm m2 r h1 h2 (K x2 m2 hR2) H locs ls hPa hPb hS hl
  by_cases g21 : v = 21
  · refine lv_tableIn (pc := 33) (tgt := 845) (off := 812) hx hb dL_law_33 (by rw [g21]; decide) (by rw [g21]; decide) (by rw [g21]; rfl) (by decide) ?_
    obtain ⟨r, x2, m2, h1, h2, hR2⟩ := sim_best (xs (nI (i + 1)).toNatClampNeg) (xs (nI (i + 2)).toNatClampNeg) x mm hR
    exact law_c21 C0 hL i hi _ x x2 mm m2 r h1 h2 (K x2 m2 hR2) H locs ls hPa hPb hS hl
  by_cases g22 : v = 22
  · refine lv_tableIn (pc := 33) (tgt := 878) (off := 845) hx hb dL_law_33 (by rw [g22]; decide) (by rw [g22]; decide) (by rw [g22]; rfl) (by decide) ?_
    obtain ⟨r, x2, m2, h1, h2, hR2⟩ := sim_mixed (xs (nI (i + 1)).toNatClampNeg) (xs (nI (i + 2)).toNatClampNeg) x mm hR
    exact law_c22 C0 hL i hi _ x x2 mm m2 r h1 h2 (K x2 m2 hR2) H locs ls hPa hPb hS hl
  by_cases g23 : v = 23
  · refine lv_tableIn (pc := 33) (tgt := 911) (off := 878) hx hb dL_law_33 (by rw [g23]; decide) (by rw [g23]; decide) (by rw [g23]; rfl) (by decide) ?_
    obtain ⟨r, x2, m2, h1, h2, hR2⟩ := sim_kind (xs (nI (i + 1)).toNatClampNeg) (xs (nI (i + 2)).toNatClampNeg) x mm hR
    exact law_c23 C0 hL i hi _ x x2 mm m2 r h1 h2 (K x2 m2 hR2) H locs ls hPa hPb hS hl
  by_cases g24 : v = 24
  · refine lv_tableIn (pc := 33) (tgt := 944) (off := 911) hx hb dL_law_33 (by rw [g24]; decide) (by rw [g24]; decide) (by rw [g24]; rfl) (by decide) ?_
    obtain ⟨r, x2, m2, h1, h2, hR2⟩ := sim_rest (xs (nI (i + 1)).toNatClampNeg) (xs (nI (i + 2)).toNatClampNeg) x mm hR
    exact law_c24 C0 hL i hi _ x x2 mm m2 r h1 h2 (K x2 m2 hR2) H locs ls hPa hPb hS hl
  by_cases g25 : v = 25
  · refine lv_tableIn (pc := 33) (tgt := 977) (off := 944) hx hb dL_law_33 (by rw [g25]; decide) (by rw [g25]; decide) (by rw [g25]; rfl) (by decide) ?_
    obtain ⟨r, x2, m2, h1, h2, hR2⟩ := sim_peace (xs (nI (i + 1)).toNatClampNeg) x mm hR
    exact law_c25 C0 hL i hi _ x x2 mm m2 r h1 h2 (K x2 m2 hR2) H locs ls hPa hPb hS hl
  by_cases g26 : v = 26
  · refine lv_tableIn (pc := 33) (tgt := 1000) (off := 967) hx hb dL_law_33 (by rw [g26]; decide) (by rw [g26]; decide) (by rw [g26]; rfl) (by decide) ?_
    obtain ⟨r, x2, m2, h1, h2, hR2⟩ := sim_champion (xs (nI (i + 1)).toNatClampNeg) x mm hR
    exact law_c26 C0 hL i hi _ x x2 mm m2 r h1 h2 (K x2 m2 hR2) H locs ls hPa hPb hS hl
  by_cases g27 : v = 27
  · refine lv_tableIn (pc := 33) (tgt := 1023) (off := 990) hx hb dL_law_33 (by rw [g27]; decide) (by rw [g27]; decide) (by rw [g27]; rfl) (by decide) ?_
    obtain ⟨r, x2, m2, h1, h2, hR2⟩ := sim_feed (xs (nI (i + 1)).toNatClampNeg) (xs (nI (i + 2)).toNatClampNeg) x mm hR
    exact law_c27 C0 hL i hi _ x x2 mm m2 r h1 h2 (K x2 m2 hR2) H locs ls hPa hPb hS hl
  by_cases g28 : v = 28
  · refine lv_tableIn (pc := 33) (tgt := 1056) (off := 1023) hx hb dL_law_33 (by rw [g28]; decide) (by rw [g28]; decide) (by rw [g28]; rfl) (by decide) ?_
    obtain ⟨r, x2, m2, h1, h2, hR2⟩ := sim_wipe x mm hR
    exact law_c28 C0 hL i hi _ x x2 mm m2 r h1 h2 (K x2 m2 hR2) H locs ls hPa hPb hS hl
  by_cases g29 : v = 29
  · refine lv_tableIn (pc := 33) (tgt := 1069) (off := 1036) hx hb dL_law_33 (by rw [g29]; decide) (by rw [g29]; decide) (by rw [g29]; rfl) (by decide) ?_
    obtain ⟨r, x2, m2, h1, h2, hR2⟩ := sim_spa x mm hR
    exact law_c29 C0 hL i hi _ x x2 mm m2 r h1 h2 (K x2 m2 hR2) H locs ls hPa hPb hS hl
  by_cases g30 : v = 30
  · refine lv_tableIn (pc := 33) (tgt := 1082) (off := 1049) hx hb dL_law_33 (by rw [g30]; decide) (by rw [g30]; decide) (by rw [g30]; rfl) (by decide) ?_
    obtain ⟨r, x2, m2, h1, h2, hR2⟩ := sim_sheet (xs (nI (i + 1)).toNatClampNeg) (xs (nI (i + 2)).toNatClampNeg) (xs (nI (i + 3)).toNatClampNeg) x mm hR
    exact law_c30 C0 hL i hi _ x x2 mm m2 r h1 h2 (K x2 m2 hR2) H locs ls hPa hPb hS hl
  by_cases g31 : v = 31
  · refine lv_tableIn (pc := 33) (tgt := 1125) (off := 1092) hx hb dL_law_33 (by rw [g31]; decide) (by rw [g31]; decide) (by rw [g31]; rfl) (by decide) ?_
    obtain ⟨r, x2, m2, h1, h2, hR2⟩ := sim_write (xs (nI (i + 1)).toNatClampNeg) (xs (nI (i + 2)).toNatClampNeg) (((xs (nI (i + 3)).toNatClampNeg).toInt64 <<< ((32 : Int32).toInt64 &&& 63)) ||| ((xs (nI (i + 4)).toNatClampNeg).toInt64 &&& 4294967295)) x mm hR
    exact law_c31 C0 hL i hi _ x x2 mm m2 r h1 h2 (K x2 m2 hR2) H locs ls hPa hPb hS hl
  by_cases g32 : v = 32
  · refine lv_tableIn (pc := 33) (tgt := 1199) (off := 1166) hx hb dL_law_33 (by rw [g32]; decide) (by rw [g32]; decide) (by rw [g32]; rfl) (by decide) ?_
    obtain ⟨r, x2, m2, h1, h2, hR2⟩ := sim_copy (xs (nI (i + 1)).toNatClampNeg) (xs (nI (i + 2)).toNatClampNeg) (xs (nI (i + 3)).toNatClampNeg) (xs (nI (i + 4)).toNatClampNeg) (xs (nI (i + 5)).toNatClampNeg) x mm hR
    exact law_c32 C0 hL i hi _ x x2 mm m2 r h1 h2 (K x2 m2 hR2) H locs ls hPa hPb hS hl
  by_cases g33 : v = 33
  · refine lv_tableIn (pc := 33) (tgt := 1262) (off := 1229) hx hb dL_law_33 (by rw [g33]; decide) (by rw [g33]; decide) (by rw [g33]; rfl) (by decide) ?_
    obtain ⟨r, x2, m2, h1, h2, hR2⟩ := sim_lays (xs (nI (i + 1)).toNatClampNeg) x mm hR
    exact law_c33 C0 hL i hi _ x x2 mm m2 r h1 h2 (K x2 m2 hR2) H locs ls hPa hPb hS hl
  by_cases g34 : v = 34
  · refine lv_tableIn (pc := 33) (tgt := 1285) (off := 1252) hx hb dL_law_33 (by rw [g34]; decide) (by rw [g34]; decide) (by rw [g34]; rfl) (by decide) ?_
    obtain ⟨r, x2, m2, h1, h2, hR2⟩ := sim_book (xs (nI (i + 1)).toNatClampNeg) (xs (nI (i + 2)).toNatClampNeg) x mm hR
    exact law_c34 C0 hL i hi _ x x2 mm m2 r h1 h2 (K x2 m2 hR2) H locs ls hPa hPb hS hl
  by_cases g35 : v = 35
  · refine lv_tableIn (pc := 33) (tgt := 1318) (off := 1285) hx hb dL_law_33 (by rw [g35]; decide) (by rw [g35]; decide) (by rw [g35]; rfl) (by decide) ?_
    obtain ⟨r, x2, m2, h1, h2, hR2⟩ := sim_read (xs (nI (i + 1)).toNatClampNeg) (xs (nI (i + 2)).toNatClampNeg) (xs (nI (i + 3)).toNatClampNeg) x mm hR
    exact law_c35 C0 hL i hi _ x x2 mm m2 r h1 h2 (K x2 m2 hR2) H locs ls hPa hPb hS hl
  by_cases g36 : v = 36
  · refine lv_tableIn (pc := 33) (tgt := 1361) (off := 1328) hx hb dL_law_33 (by rw [g36]; decide) (by rw [g36]; decide) (by rw [g36]; rfl) (by decide) ?_
    obtain ⟨r, x2, m2, h1, h2, hR2⟩ := sim_image x mm hR
    exact law_c36 C0 hL i hi _ x x2 mm m2 r h1 h2 (K x2 m2 hR2) H locs ls hPa hPb hS hl
  by_cases g37 : v = 37
  · refine lv_tableIn (pc := 33) (tgt := 1374) (off := 1341) hx hb dL_law_33 (by rw [g37]; decide) (by rw [g37]; decide) (by rw [g37]; rfl) (by decide) ?_
    obtain ⟨r, x2, m2, h1, h2, hR2⟩ := sim_undo x mm hR
    exact law_c37 C0 hL i hi _ x x2 mm m2 r h1 h2 (K x2 m2 hR2) H locs ls hPa hPb hS hl
  by_cases g38 : v = 38
  · refine lv_tableIn (pc := 33) (tgt := 1387) (off := 1354) hx hb dL_law_33 (by rw [g38]; decide) (by rw [g38]; decide) (by rw [g38]; rfl) (by decide) ?_
    obtain ⟨r, x2, m2, h1, h2, hR2⟩ := sim_tear x mm hR
    exact law_c38 C0 hL i hi _ x x2 mm m2 r h1 h2 (K x2 m2 hR2) H locs ls hPa hPb hS hl
  by_cases g39 : v = 39
  · refine lv_tableIn (pc := 33) (tgt := 1400) (off := 1367) hx hb dL_law_33 (by rw [g39]; decide) (by rw [g39]; decide) (by rw [g39]; rfl) (by decide) ?_
    obtain ⟨r, x2, m2, h1, h2, hR2⟩ := sim_count (xs (nI (i + 1)).toNatClampNeg) x mm hR
    exact law_c39 C0 hL i hi _ x x2 mm m2 r h1 h2 (K x2 m2 hR2) H locs ls hPa hPb hS hl
  by_cases g40 : v = 40
  · refine lv_tableIn (pc := 33) (tgt := 1423) (off := 1390) hx hb dL_law_33 (by rw [g40]; decide) (by rw [g40]; decide) (by rw [g40]; rfl) (by decide) ?_
    obtain ⟨r, x2, m2, h1, h2, hR2⟩ := sim_status (xs (nI (i + 1)).toNatClampNeg) x mm hR
    exact law_c40 C0 hL i hi _ x x2 mm m2 r h1 h2 (K x2 m2 hR2) H locs ls hPa hPb hS hl
  refine lv_tableOut (pc := 33) (tgt := 1446) hx hb dL_law_33 (pv_swr (x := v) 0 40 (fun k h1 h2 => (fun e7 => Or.elim e7 (fun e8 e9 => g0 ((e9.trans (congrArg Int32.ofInt e8)).trans (by decide))) (fun e7 => Or.elim e7 (fun e8 e9 => g1 ((e9.trans (congrArg Int32.ofInt e8)).trans (by decide))) (fun e7 => Or.elim e7 (fun e8 e9 => g2 ((e9.trans (congrArg Int32.ofInt e8)).trans (by decide))) (fun e7 => Or.elim e7 (fun e8 e9 => g3 ((e9.trans (congrArg Int32.ofInt e8)).trans (by decide))) (fun e7 => Or.elim e7 (fun e8 e9 => g4 ((e9.trans (congrArg Int32.ofInt e8)).trans (by decide))) (fun e7 => Or.elim e7 (fun e8 e9 => g5 ((e9.trans (congrArg Int32.ofInt e8)).trans (by decide))) (fun e7 => Or.elim e7 (fun e8 e9 => g6 ((e9.trans (congrArg Int32.ofInt e8)).trans (by decide))) (fun e7 => Or.elim e7 (fun e8 e9 => g7 ((e9.trans (congrArg Int32.ofInt e8)).trans (by decide))) (fun e7 => Or.elim e7 (fun e8 e9 => g8 ((e9.trans (congrArg Int32.ofInt e8)).trans (by decide))) (fun e7 => Or.elim e7 (fun e8 e9 => g9 ((e9.trans (congrArg Int32.ofInt e8)).trans (by decide))) (fun e7 => Or.elim e7 (fun e8 e9 => g10 ((e9.trans (congrArg Int32.ofInt e8)).trans (by decide))) (fun e7 => Or.elim e7 (fun e8 e9 => g11 ((e9.trans (congrArg Int32.ofInt e8)).trans (by decide))) (fun e7 => Or.elim e7 (fun e8 e9 => g12 ((e9.trans (congrArg Int32.ofInt e8)).trans (by decide))) (fun e7 => Or.elim e7 (fun e8 e9 => g13 ((e9.trans (congrArg Int32.ofInt e8)).trans (by decide))) (fun e7 => Or.elim e7 (fun e8 e9 => g14 ((e9.trans (congrArg Int32.ofInt e8)).trans (by decide))) (fun e7 => Or.elim e7 (fun e8 e9 => g15 ((e9.trans (congrArg Int32.ofInt e8)).trans (by decide))) (fun e7 => Or.elim e7 (fun e8 e9 => g16 ((e9.trans (congrArg Int32.ofInt e8)).trans (by decide))) (fun e7 => Or.elim e7 (fun e8 e9 => g17 ((e9.trans (congrArg Int32.ofInt e8)).trans (by decide))) (fun e7 => Or.elim e7 (fun e8 e9 => g18 ((e9.trans (congrArg Int32.ofInt e8)).trans (by decide))) (fun e7 => Or.elim e7 (fun e8 e9 => g19 ((e9.trans (congrArg Int32.ofInt e8)).trans (by decide))) (fun e7 => Or.elim e7 (fun e8 e9 => g20 ((e9.trans (congrArg Int32.ofInt e8)).trans (by decide))) (fun e7 => Or.elim e7 (fun e8 e9 => g21 ((e9.trans (congrArg Int32.ofInt e8)).trans (by decide))) (fun e7 => Or.elim e7 (fun e8 e9 => g22 ((e9.trans (congrArg Int32.ofInt e8)).trans (by decide))) (fun e7 => Or.elim e7 (fun e8 e9 => g23 ((e9.trans (congrArg Int32.ofInt e8)).trans (by decide))) (fun e7 => Or.elim e7 (fun e8 e9 => g24 ((e9.trans (congrArg Int32.ofInt e8)).trans (by decide))) (fun e7 => Or.elim e7 (fun e8 e9 => g25 ((e9.trans (congrArg Int32.ofInt e8)).trans (by decide))) (fun e7 => Or.elim e7 (fun e8 e9 => g26 ((e9.trans (congrArg Int32.ofInt e8)).trans (by decide))) (fun e7 => Or.elim e7 (fun e8 e9 => g27 ((e9.trans (congrArg Int32.ofInt e8)).trans (by decide))) (fun e7 => Or.elim e7 (fun e8 e9 => g28 ((e9.trans (congrArg Int32.ofInt e8)).trans (by decide))) (fun e7 => Or.elim e7 (fun e8 e9 => g29 ((e9.trans (congrArg Int32.ofInt e8)).trans (by decide))) (fun e7 => Or.elim e7 (fun e8 e9 => g30 ((e9.trans (congrArg Int32.ofInt e8)).trans (by decide))) (fun e7 => Or.elim e7 (fun e8 e9 => g31 ((e9.trans (congrArg Int32.ofInt e8)).trans (by decide))) (fun e7 => Or.elim e7 (fun e8 e9 => g32 ((e9.trans (congrArg Int32.ofInt e8)).trans (by decide))) (fun e7 => Or.elim e7 (fun e8 e9 => g33 ((e9.trans (congrArg Int32.ofInt e8)).trans (by decide))) (fun e7 => Or.elim e7 (fun e8 e9 => g34 ((e9.trans (congrArg Int32.ofInt e8)).trans (by decide))) (fun e7 => Or.elim e7 (fun e8 e9 => g35 ((e9.trans (congrArg Int32.ofInt e8)).trans (by decide))) (fun e7 => Or.elim e7 (fun e8 e9 => g36 ((e9.trans (congrArg Int32.ofInt e8)).trans (by decide))) (fun e7 => Or.elim e7 (fun e8 e9 => g37 ((e9.trans (congrArg Int32.ofInt e8)).trans (by decide))) (fun e7 => Or.elim e7 (fun e8 e9 => g38 ((e9.trans (congrArg Int32.ofInt e8)).trans (by decide))) (fun e7 => Or.elim e7 (fun e8 e9 => g39 ((e9.trans (congrArg Int32.ofInt e8)).trans (by decide))) (fun e8 e9 => g40 ((e9.trans (congrArg Int32.ofInt e8)).trans (by decide))))))))))))))))))))))))))))))))))))))))))) (show k = 0 ∨ k = 1 ∨ k = 2 ∨ k = 3 ∨ k = 4 ∨ k = 5 ∨ k = 6 ∨ k = 7 ∨ k = 8 ∨ k = 9 ∨ k = 10 ∨ k = 11 ∨ k = 12 ∨ k = 13 ∨ k = 14 ∨ k = 15 ∨ k = 16 ∨ k = 17 ∨ k = 18 ∨ k = 19 ∨ k = 20 ∨ k = 21 ∨ k = 22 ∨ k = 23 ∨ k = 24 ∨ k = 25 ∨ k = 26 ∨ k = 27 ∨ k = 28 ∨ k = 29 ∨ k = 30 ∨ k = 31 ∨ k = 32 ∨ k = 33 ∨ k = 34 ∨ k = 35 ∨ k = 36 ∨ k = 37 ∨ k = 38 ∨ k = 39 ∨ k = 40 by omega))) (by decide) ?_
  exact K x mm hR H locs ls hPa hPb hS hl
set_option maxHeartbeats 4000000 in
set_option maxRecDepth 100000 in
theorem whole_start {p : Program} {e : Env} {s : State} {m : MethodId} {below : List Frame} {meth : Method} {c : Code} (l : Launch) (hflags : l.flags = flags0) {b L : Nat} {xs : Nat → Int32} (hL : L ≤ 3072) (C0 : lw_At p s m meth c b L xs) : W p l e room_1 s m #[Value.ref b] below meth c s.heap [] 0 0 (lw_Z below #[Value.ref b] s) (entryFrame m ([Value.ref b] : List Value).toArray 4) := by
  obtain ⟨hx, hb, hr, hml, hown, hts0, hX, hbl, hlocks, hgv⟩ := id C0
  have hA : ∀ q : Nat, s.heap.size ≤ q → (fun q : Nat => s.heap.size ≤ q) q := fun _ h => h
  obtain ⟨E, hE, hXX⟩ := pv_start hts0 hgv
  have hK := hE.1
  have hts : ∀ w ∈ wsL_law, w.before #[Value.ref b] s = true := fun w h => hts0 w (wsL_law_in w h)
  have hown : s.vm.findClass RL = some m.cls := hown
  have hb : c.code = cL_law := hb
  have hS : va_S (fun q : Nat => s.heap.size ≤ q) s.heap s.heap [] := va_S.rf
  have hP : va_P E.1 vwCl [] s.heap := fun k q h => by simp at h
  have hD : va_D (fun q : Nat => s.heap.size ≤ q) [] := ⟨fun i j p q h => by simp at h, fun k q h => by simp at h⟩
  have hl := lv_entry ([.ref b]) (n := 4) (Nat.le_of_ble_eq_true rfl)
  rw [lg_entry_eq]
  generalize (lg_sl ([.ref b]) ++ List.replicate (4 - (lg_sl ([.ref b])).length) Slot.unset).toArray = ls at hl ⊢
  have hl : lv_has ls 4 [(0, .ref b)] := hl
  refine va_new (pc := 0) (D := E.1) (ci := 4) (fs := [.null, .null, .null, .null, .null, .null, .null, .int 0]) (C := RX6) (T := TX6) (N := 8) hx hb hts inlX6 tyX6 tyX6_ok hown (hts (.classLink RL 7 RX6) ?w1) (hts (.instantiable RX6 8) ?w2) (hts (.initialized RX6) ?w3) hK hP hD hS hA rfl (fun j hj => by rcases (show j = 0 ∨ j = 1 ∨ j = 2 ∨ j = 3 ∨ j = 4 ∨ j = 5 ∨ j = 6 ∨ j = 7 by omega) with rfl | rfl | rfl | rfl | rfl | rfl | rfl | rfl <;> rfl) (Nat.le_of_ble_eq_true rfl) (Nat.le_of_ble_eq_true rfl) dL_law_0 (fun q1 H hP hD hS => ?_)
  case w1 => exact (List.mem_append_left _ (List.mem_append_left _ (List.mem_append_left _ (List.mem_append_left _ (List.mem_append_left _ (List.mem_append_left _ (List.mem_append_left _ (List.mem_append_left _ (List.mem_of_getElem? (i := 0) rfl)))))))))
  case w2 => exact (List.mem_append_left _ (List.mem_append_left _ (List.mem_append_left _ (List.mem_append_left _ (List.mem_append_left _ (List.mem_append_left _ (List.mem_append_left _ (List.mem_append_left _ (List.mem_of_getElem? (i := 1) rfl)))))))))
  case w3 => exact (List.mem_append_left _ (List.mem_append_left _ (List.mem_append_left _ (List.mem_append_left _ (List.mem_append_left _ (List.mem_append_left _ (List.mem_append_left _ (List.mem_append_left _ (List.mem_of_getElem? (i := 2) rfl)))))))))
  refine lv_dup (pc := 3) hx hb dL_law_3 rfl ?_
  refine pv_cI (pc := 4) (w0 := []) (x0 := (.inr (4, [.null, .null, .null, .null, .null, .null, .null, .int 0]))) (rest := [.ref q1]) hE hA hS hP hD (va_runI (As := []) (rest := [.ref q1]) ⟨hx, hb, hml, hown, hts⟩ (c_X6_init l E q1 H.size) (cwI 0 hts gL_law_X6_init rfl rfl rfl (hts (.initialized RX6) ?w4) (hts (.methodLink RL 9 yX6_init) ?w5) (hts (.instanceMethod yX6_init) ?w6) rfl (by decide +kernel) ⟨Nat.le_of_ble_eq_true rfl, Nat.le_of_ble_eq_true rfl⟩) (pv_preC (w0 := []) (X := pv_XX) hE hA hS hP hD (fun U g mk a h => ⟨va_Nw.same rfl rfl h.1, va_Nw.same rfl rfl h.2.1, va_Nw.same rfl rfl h.2.2.1, va_AO.moved (Vm.Alike.refl U.vm) h.2.2.2⟩) (fun U hW => ⟨va_Nw.warmM hW hXX.1, va_Nw.warmM hW hXX.2.1, va_Nw.warmM hW hXX.2.2.1, va_AO.moved hW.alike hXX.2.2.2⟩)) rfl rfl hl.1 rfl (lv_room (Nat.le_of_ble_eq_true rfl)) dL_law_4 ⟨Nat.le_of_ble_eq_true rfl, Nat.le_of_ble_eq_true rfl⟩) (fun H2 locs2 w1 hw hP2 hD2 hS2 => ?_)
  case w4 => exact (List.mem_append_left _ (List.mem_append_left _ (List.mem_append_left _ (List.mem_append_left _ (List.mem_append_left _ (List.mem_append_left _ (List.mem_append_left _ (List.mem_append_left _ (List.mem_of_getElem? (i := 2) rfl)))))))))
  case w5 => exact (List.mem_append_left _ (List.mem_append_left _ (List.mem_append_left _ (List.mem_append_left _ (List.mem_append_left _ (List.mem_append_left _ (List.mem_append_left _ (List.mem_append_left _ (List.mem_of_getElem? (i := 7) rfl)))))))))
  case w6 => exact (List.mem_append_left _ (List.mem_append_left _ (List.mem_append_left _ (List.mem_append_left _ (List.mem_append_left _ (List.mem_append_left _ (List.mem_append_left _ (List.mem_append_left _ (List.mem_of_getElem? (i := 8) rfl)))))))))
  obtain ⟨a, x, ha, hix, rfl⟩ := hw
  subst ha
  have hP : va_P E.1 vwCl (pv_wX E a x) H2 := hP2
  have hD : va_D (fun q : Nat => s.heap.size ≤ q) (pv_wX E a x) := hD2
  have hS := hS2
  refine lv_astore_n (pc := 7) (lv' := [(1, .ref (a 0)), (0, .ref b)]) hx hb dL_law_7 rfl hl (Nat.le_of_ble_eq_true rfl) rfl (fun ls hl => ?_)
  refine va_new (pc := 8) (D := E.1) (ci := 5) (fs := [.null, .null, .null, .int 0, .null, .null, .null, .null, .int 0, .int 0, .int 0, .int 0, .int 0, .int 0, .null, .null, .null]) (C := RX7) (T := TX7) (N := 17) hx hb hts inlX7 tyX7 tyX7_ok hown (hts (.classLink RL 10 RX7) ?w7) (hts (.instantiable RX7 17) ?w8) (hts (.initialized RX7) ?w9) hK hP hD hS hA rfl (fun j hj => by rcases (show j = 0 ∨ j = 1 ∨ j = 2 ∨ j = 3 ∨ j = 4 ∨ j = 5 ∨ j = 6 ∨ j = 7 ∨ j = 8 ∨ j = 9 ∨ j = 10 ∨ j = 11 ∨ j = 12 ∨ j = 13 ∨ j = 14 ∨ j = 15 ∨ j = 16 by omega) with rfl | rfl | rfl | rfl | rfl | rfl | rfl | rfl | rfl | rfl | rfl | rfl | rfl | rfl | rfl | rfl | rfl <;> rfl) (Nat.le_of_ble_eq_true rfl) (Nat.le_of_ble_eq_true rfl) dL_law_8 (fun q2 H hP hD hS => ?_)
  case w7 => exact (List.mem_append_left _ (List.mem_append_left _ (List.mem_append_left _ (List.mem_append_left _ (List.mem_append_left _ (List.mem_append_left _ (List.mem_append_left _ (List.mem_append_left _ (List.mem_of_getElem? (i := 3) rfl)))))))))
  case w8 => exact (List.mem_append_left _ (List.mem_append_left _ (List.mem_append_left _ (List.mem_append_left _ (List.mem_append_left _ (List.mem_append_left _ (List.mem_append_left _ (List.mem_append_left _ (List.mem_of_getElem? (i := 4) rfl)))))))))
  case w9 => exact (List.mem_append_left _ (List.mem_append_left _ (List.mem_append_left _ (List.mem_append_left _ (List.mem_append_left _ (List.mem_append_left _ (List.mem_append_left _ (List.mem_append_left _ (List.mem_of_getElem? (i := 5) rfl)))))))))
  refine lv_dup (pc := 11) hx hb dL_law_11 rfl ?_
  refine pv_cI (pc := 12) (w0 := pv_wX E a x) (x0 := (.inr (5, [.null, .null, .null, .int 0, .null, .null, .null, .null, .int 0, .int 0, .int 0, .int 0, .int 0, .int 0, .null, .null, .null]))) (rest := [.ref q2]) hE hA hS hP hD (va_runI (As := []) (rest := [.ref q2]) ⟨hx, hb, hml, hown, hts⟩ (c_X7_init l E q2 H.size) (cwI 0 hts gL_law_X7_init rfl rfl rfl (hts (.initialized RX7) ?v4) (hts (.methodLink RL 12 yX7_init) ?v5) (hts (.instanceMethod yX7_init) ?v6) rfl (by decide +kernel) ⟨Nat.le_of_ble_eq_true rfl, Nat.le_of_ble_eq_true rfl⟩) (pv_preC (w0 := pv_wX E a x) (X := fun _ => True) hE hA hS hP hD (fun _ _ _ _ _ => trivial) (fun _ _ => trivial)) rfl rfl hl.1 rfl (lv_room (Nat.le_of_ble_eq_true rfl)) dL_law_12 ⟨Nat.le_of_ble_eq_true rfl, Nat.le_of_ble_eq_true rfl⟩) (fun H locs w1 hw hP hD hS => ?_)
  case v4 => exact (List.mem_append_left _ (List.mem_append_left _ (List.mem_append_left _ (List.mem_append_left _ (List.mem_append_left _ (List.mem_append_left _ (List.mem_append_left _ (List.mem_append_left _ (List.mem_of_getElem? (i := 5) rfl)))))))))
  case v5 => exact (List.mem_append_left _ (List.mem_append_left _ (List.mem_append_left _ (List.mem_append_left _ (List.mem_append_left _ (List.mem_append_left _ (List.mem_append_left _ (List.mem_append_right _ (List.mem_append_right _ (List.mem_append_left _ (List.mem_of_getElem? (i := 21) rfl)))))))))))
  case v6 => exact (List.mem_append_left _ (List.mem_append_left _ (List.mem_append_left _ (List.mem_append_left _ (List.mem_append_left _ (List.mem_append_left _ (List.mem_append_left _ (List.mem_append_right _ (List.mem_append_right _ (List.mem_append_left _ (List.mem_of_getElem? (i := 22) rfl)))))))))))
  obtain ⟨b1, b2, b3, b4, b5, b6, b7, b8, b9, b10, rfl⟩ := hw
  refine W.widen (k := 48) (n := 871) (Nat.le_of_ble_eq_true rfl) (Nat.le_of_ble_eq_true rfl) ?_
  refine lv_astore_n (pc := 15) (lv' := [(2, .ref q2), (1, .ref (a 0)), (0, .ref b)]) hx hb dL_law_15 rfl hl (Nat.le_of_ble_eq_true rfl) rfl (fun ls hl => ?_)
  refine lv_iconst (pc := 16) (v := nI 0) hx hb dL_law_16 (by decide) ?_
  refine lv_istore_n (pc := 17) (lv' := [(3, .int (nI 0)), (2, .ref q2), (1, .ref (a 0)), (0, .ref b)]) hx hb dL_law_17 rfl hl (Nat.le_of_ble_eq_true rfl) rfl (fun ls hl => ?_)
  obtain ⟨hPa, hPb⟩ := pv_split hP
  obtain ⟨hDa, hDb, hXM⟩ := pv_splitD hD
  have C1 : lw_C p s m meth c b L xs E a q2 b1 b2 b3 b4 b5 b6 b7 b8 b9 b10 := by
    refine ⟨hx, hb, hml, hown, hts, hX, hbl, hE, fun x' => pv_Dm (ws := pv_wX E a x) (ws' := pv_wX E a x') rfl hDa, fun mm => pv_Dm (ws := pv_wM E q2 b1 b2 b3 b4 b5 b6 b7 b8 b9 b10 pv_m0) (ws' := pv_wM E q2 b1 b2 b3 b4 b5 b6 b7 b8 b9 b10 mm) rfl hDb, fun x' mm => ?_⟩
    exact (pv_splitD (pv_Dm (ws := pv_wX E a x ++ pv_wM E q2 b1 b2 b3 b4 b5 b6 b7 b8 b9 b10 pv_m0) (ws' := pv_wX E a x' ++ pv_wM E q2 b1 b2 b3 b4 b5 b6 b7 b8 b9 b10 mm) rfl hD)).2.2
  exact law_loop C1 hr hlocks hL L 0 x pv_m0 (by omega) (by omega) (rel_init x hix) H locs ls hPa hPb hS (lv_sub hl [3, 2, 1, 0] rfl)
