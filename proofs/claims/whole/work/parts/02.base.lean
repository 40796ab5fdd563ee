/-! THE BASE: one environment for all contracts, contracts that only read, contracts that write, calls -/
/-- what is fixed for a whole run: the classes' numbers, array classes (int, long, Sheet), the static arrays UNDER and NAMES, the string constants and their bytes -/
abbrev pv_E : Type := va_G × ClassId × ClassId × ClassId × Nat × Nat × (Nat → Nat) × (Nat → Nat)
abbrev pv_I (E : pv_E) : ClassId := E.2.1
abbrev pv_J (E : pv_E) : ClassId := E.2.2.1
abbrev pv_Q (E : pv_E) : ClassId := E.2.2.2.1
abbrev pv_u (E : pv_E) : Nat := E.2.2.2.2.1
abbrev pv_n (E : pv_E) : Nat := E.2.2.2.2.2.1
abbrev pv_k (E : pv_E) : Nat → Nat := E.2.2.2.2.2.2.1
abbrev pv_v (E : pv_E) : Nat → Nat := E.2.2.2.2.2.2.2
abbrev pv_ty (E : pv_E) : List (ClassId × FieldType) := [(pv_I E, .int), (pv_J E, .long), (pv_Q E, .object "ProvinceCards$Sheet")]
def pv_undL : List Int32 := [-1, 0, 0, 0, 1, 2]
def pv_und (j : Nat) : Int32 := pv_undL.getD j 0
def pv_namL : List Int32 := [101, 110, 118, 111, 121, 0, 0, 0, 109, 105, 115, 101, 114, 0, 0, 0, 115, 99, 104, 111, 108, 97, 114, 0, 98, 114, 105, 98, 101, 100, 0, 0, 102, 111, 120, 0, 0, 0, 0, 0, 109, 97, 114, 115, 104, 97, 108, 0, 102, 111, 114, 0, 0, 0, 0, 0, 109, 105, 120, 0, 0, 0, 0, 0, 112, 114, 111, 118, 105, 110, 99, 101, 102, 114, 101, 101, 0, 0, 0, 0]
def pv_nam (j : Nat) : Int32 := pv_namL.getD j 0
/-- the ten string constants: envoy miser scholar bribed fox marshal for mix province free -/
def pv_byt : List (List Int32) := [[101, 110, 118, 111, 121], [109, 105, 115, 101, 114], [115, 99, 104, 111, 108, 97, 114], [98, 114, 105, 98, 101, 100], [102, 111, 120], [109, 97, 114, 115, 104, 97, 108], [102, 111, 114], [109, 105, 120], [112, 114, 111, 118, 105, 110, 99, 101], [102, 114, 101, 101]]
def pv_len : List Nat := [5, 5, 7, 6, 3, 7, 3, 3, 8, 4]
def pv_strs : List (String × Nat × String) := [(RX2, 9, "envoy"), (RX2, 11, "miser"), (RX2, 13, "scholar"), (RX2, 15, "bribed"), (RX2, 17, "fox"), (RX2, 19, "marshal"), (RX5, 65, "for"), (RX5, 49, "mix"), (RX5, 54, "province"), (RX5, 86, "free")]
def pv_nest : List (String × Nat × MethodName × String) := [(RX2, 21, yX6_isKind, RX6), (RX5, 70, yX6_isState, RX6), (RX5, 77, yX6_isMix, RX6), (RX5, 83, yX6_isProvince, RX6)]
def pv_Ev (E : pv_E) (A : Nat → Prop) (U : State) (H : Heap) : Prop :=
  va_K E.1 vwCl (pv_ty E) U ∧ va_Z RX2 "UNDER" "[I" (.ref (pv_u E)) A U H ∧ va_T .int (pv_u E) 6 (fun j => .int (pv_und j)) A U H
  ∧ va_Z RX7 "NAMES" "[I" (.ref (pv_n E)) A U H ∧ va_T .int (pv_n E) 80 (fun j => .int (pv_nam j)) A U H
  ∧ (∀ (i : Nat) (q : String × Nat × MethodName × String), pv_nest[i]? = some q → va_Nw (.methodLinkNest q.1 q.2.1 q.2.2.1 q.2.2.2) U)
  ∧ vk_S 10 pv_len pv_byt (pv_k E) (pv_v E) A U H
  ∧ (∀ (i : Nat) (q : String × Nat × String), pv_strs[i]? = some q → vk_R q.1 q.2.1 q.2.2 (pv_k E i) U)
  ∧ va_Z "java/lang/String" "COMPACT_STRINGS" "Z" (.int 1) A U H ∧ va_Zq "jdk/internal/util/Preconditions" "SIOOBE_FORMATTER" "Ljava/util/function/BiFunction;" A U H
theorem pv_Ev.blind {E : pv_E} {A : Nat → Prop} {U U' : State} {H : Heap} (hv : U'.vm = U.vm) (h : pv_Ev E A U H) : pv_Ev E A U' H := by
  have al : U.vm.Alike U'.vm := by rw [hv]; exact Vm.Alike.refl U.vm
  obtain ⟨h1, h2, h3, h4, h5, h6, h7, h8, h9, h10⟩ := h
  exact ⟨va_K.moved al h1, va_Z.moved al h2, va_T.moved al h3, va_Z.moved al h4, va_T.moved al h5, fun i q hq => va_Nw.same rfl hv.symm (h6 i q hq), vk_S.moved al h7, fun i q hq => vk_R.same hv (h8 i q hq), va_Z.moved al h9, va_Zq.moved al h10⟩
theorem pv_Ev.call {E : pv_E} {A B : Nat → Prop} {s U : State} {H : Heap} {locs : List Loc} (h : pv_Ev E A s s.heap) (hS : va_S A s.heap H locs) (hAB : ∀ q, B q → A q) (hW : s.WarmedH U.vm) (hU : U.heap = H) : pv_Ev E B U U.heap := by
  have al := hW.alike
  obtain ⟨h1, h2, h3, h4, h5, h6, h7, h8, h9, h10⟩ := h
  rw [hU]
  refine ⟨va_K.moved al h1, ?_, ?_, ?_, ?_, fun i q hq => va_Nw.warmM hW (h6 i q hq), ?_, fun i q hq => vk_R.warm hW (h8 i q hq), ?_, ?_⟩
  · exact va_Z.moved al ((h2.kept hS.2.1).narrow hAB)
  · exact va_T.moved al ((h3.kept hS.2.1).narrow hAB)
  · exact va_Z.moved al ((h4.kept hS.2.1).narrow hAB)
  · exact va_T.moved al ((h5.kept hS.2.1).narrow hAB)
  · exact vk_S.moved al ((h7.kept hS.2.1).narrow hAB)
  · exact va_Z.moved al ((h9.kept hS.2.1).narrow hAB)
  · exact va_Zq.moved al ((h10.kept hS.2.1).narrow hAB)
theorem pv_str0 {E : pv_E} {A : Nat → Prop} {U : State} {H : Heap} (h : pv_Ev E A U H) : vk_R RX2 9 "envoy" (pv_k E 0) U := h.2.2.2.2.2.2.2.1 0 (RX2, 9, "envoy") rfl
theorem pv_str1 {E : pv_E} {A : Nat → Prop} {U : State} {H : Heap} (h : pv_Ev E A U H) : vk_R RX2 11 "miser" (pv_k E 1) U := h.2.2.2.2.2.2.2.1 1 (RX2, 11, "miser") rfl
theorem pv_str2 {E : pv_E} {A : Nat → Prop} {U : State} {H : Heap} (h : pv_Ev E A U H) : vk_R RX2 13 "scholar" (pv_k E 2) U := h.2.2.2.2.2.2.2.1 2 (RX2, 13, "scholar") rfl
theorem pv_str3 {E : pv_E} {A : Nat → Prop} {U : State} {H : Heap} (h : pv_Ev E A U H) : vk_R RX2 15 "bribed" (pv_k E 3) U := h.2.2.2.2.2.2.2.1 3 (RX2, 15, "bribed") rfl
theorem pv_str4 {E : pv_E} {A : Nat → Prop} {U : State} {H : Heap} (h : pv_Ev E A U H) : vk_R RX2 17 "fox" (pv_k E 4) U := h.2.2.2.2.2.2.2.1 4 (RX2, 17, "fox") rfl
theorem pv_str5 {E : pv_E} {A : Nat → Prop} {U : State} {H : Heap} (h : pv_Ev E A U H) : vk_R RX2 19 "marshal" (pv_k E 5) U := h.2.2.2.2.2.2.2.1 5 (RX2, 19, "marshal") rfl
theorem pv_str6 {E : pv_E} {A : Nat → Prop} {U : State} {H : Heap} (h : pv_Ev E A U H) : vk_R RX5 65 "for" (pv_k E 6) U := h.2.2.2.2.2.2.2.1 6 (RX5, 65, "for") rfl
theorem pv_str7 {E : pv_E} {A : Nat → Prop} {U : State} {H : Heap} (h : pv_Ev E A U H) : vk_R RX5 49 "mix" (pv_k E 7) U := h.2.2.2.2.2.2.2.1 7 (RX5, 49, "mix") rfl
theorem pv_str8 {E : pv_E} {A : Nat → Prop} {U : State} {H : Heap} (h : pv_Ev E A U H) : vk_R RX5 54 "province" (pv_k E 8) U := h.2.2.2.2.2.2.2.1 8 (RX5, 54, "province") rfl
theorem pv_str9 {E : pv_E} {A : Nat → Prop} {U : State} {H : Heap} (h : pv_Ev E A U H) : vk_R RX5 86 "free" (pv_k E 9) U := h.2.2.2.2.2.2.2.1 9 (RX5, 86, "free") rfl
theorem pv_nst0 {E : pv_E} {A : Nat → Prop} {U : State} {H : Heap} (h : pv_Ev E A U H) : va_Nw (.methodLinkNest RX2 21 yX6_isKind RX6) U := h.2.2.2.2.2.1 0 (RX2, 21, yX6_isKind, RX6) rfl
theorem pv_nst1 {E : pv_E} {A : Nat → Prop} {U : State} {H : Heap} (h : pv_Ev E A U H) : va_Nw (.methodLinkNest RX5 70 yX6_isState RX6) U := h.2.2.2.2.2.1 1 (RX5, 70, yX6_isState, RX6) rfl
theorem pv_nst2 {E : pv_E} {A : Nat → Prop} {U : State} {H : Heap} (h : pv_Ev E A U H) : va_Nw (.methodLinkNest RX5 77 yX6_isMix RX6) U := h.2.2.2.2.2.1 2 (RX5, 77, yX6_isMix, RX6) rfl
theorem pv_nst3 {E : pv_E} {A : Nat → Prop} {U : State} {H : Heap} (h : pv_Ev E A U H) : va_Nw (.methodLinkNest RX5 83 yX6_isProvince RX6) U := h.2.2.2.2.2.1 3 (RX5, 83, yX6_isProvince, RX6) rfl
/-- a method's start: its arguments, its cells, the environment -/
def pv_Pre (E : pv_E) (ws : va_W) (sz : Nat) (av : List Value) : Array Value → State → Prop := fun v U => v = av.toArray ∧ U.heap.size = sz ∧ va_P E.1 vwCl ws U.heap ∧ va_D (fun _ => True) ws ∧ pv_Ev E (va_A ws sz) U U.heap
/-- the end of a method that only reads -/
def pv_Ro (o : Option Value) : Array Value → State → Outcome → State → Prop := fun _ st oc t => oc = .returned o ∧ t.heap = st.heap
/-- the end of a method that writes: the cells behind it -/
def pv_Rw (E : pv_E) (ws : va_W) (sz : Nat) (o : Option Value) (ws' : va_W) : Array Value → State → Outcome → State → Prop := fun _ st oc t => oc = .returned o ∧ va_P E.1 vwCl ws' t.heap ∧ va_F (va_A ws sz) st t
abbrev pv_RO (l : Launch) (E : pv_E) (y : MethodName) (wl : List Cond) (rm : Room) (ws : va_W) (av : List Value) (o : Option Value) : Prop := ∀ sz : Nat, Met l y wl rm (pv_Pre E ws sz av) (pv_Ro o) 0 0 (va_A ws sz)
abbrev pv_RW (l : Launch) (E : pv_E) (y : MethodName) (wl : List Cond) (rm : Room) (ws : va_W) (av : List Value) (o : Option Value) (ws' : va_W) : Prop := ∀ sz : Nat, Met l y wl rm (pv_Pre E ws sz av) (pv_Rw E ws sz o ws') 0 0 (va_A ws sz)
theorem pv_blind {E : pv_E} {ws : va_W} {sz : Nat} {av : List Value} : FrameBlind (pv_Pre E ws sz av) := fun a U g mk h => ⟨h.1, h.2.1, h.2.2.1, h.2.2.2.1, pv_Ev.blind (U := U) (U' := U.calling g mk a) rfl h.2.2.2.2⟩
/-- worlds at the same addresses -/
theorem pv_Dm {A : Nat → Prop} {ws ws' : va_W} (h : ws'.map (fun q => q.1) = ws.map (fun q => q.1)) (hD : va_D A ws) : va_D A ws' := by
  have key : ∀ (k : Nat) (q : Nat × va_E), ws'[k]? = some q → ∃ q' : Nat × va_E, ws[k]? = some q' ∧ q'.1 = q.1 := by
    intro k q hq
    have h1 : (ws'.map (fun q => q.1))[k]? = some q.1 := by rw [List.getElem?_map, hq]; rfl
    rw [h, List.getElem?_map] at h1
    cases hk : ws[k]? with
    | none => rw [hk] at h1; cases h1
    | some q' => rw [hk] at h1; exact ⟨q', rfl, Option.some.inj h1⟩
  refine ⟨fun i j p q hi hj hpq => ?_, fun k q hq => ?_⟩
  · obtain ⟨p', a1, a2⟩ := key i p hi
    obtain ⟨q', b1, b2⟩ := key j q hj
    exact hD.1 i j p' q' a1 b1 (by rw [a2, b2]; exact hpq)
  · obtain ⟨q', a1, a2⟩ := key k q hq
    rw [← a2]
    exact hD.2 k q' a1
theorem pv_fm {ws wc : va_W} {is : List Nat} (hs : is.map (fun i => ws[i]?) = wc.map some) : is.filterMap (fun i => ws[i]?) = wc := by
  have h : is.filterMap (fun i => ws[i]?) = (is.map (fun i => ws[i]?)).filterMap id := by rw [List.filterMap_map]; rfl
  rw [h, hs, List.filterMap_map]
  simp
theorem pv_pre {E : pv_E} {A : Nat → Prop} {s : State} {H : Heap} {locs : List Loc} {ws wc : va_W} {av : List Value} (hE : pv_Ev E A s s.heap) (hS : va_S A s.heap H locs) (hA : ∀ q, s.heap.size ≤ q → A q) (hP : va_P E.1 vwCl ws H) (hD : va_D A ws) (is : List Nat) (hn : va_nd is = true) (hs : is.map (fun i => ws[i]?) = wc.map some) : ∀ U : State, U.heap = H → s.WarmedH U.vm → pv_Pre E wc H.size av av.toArray U := by
  intro U hU hW
  refine ⟨rfl, by rw [hU], by rw [hU]; exact hP.sub is (pv_fm hs), (hD.sub is hn hs).weaken (fun _ _ _ _ => trivial), ?_⟩
  exact hE.call hS (va_free hD hS hA is hs) hW hU
def pv_ins : List Nat → va_W → va_W → va_W
  | [], ws, _ => ws
  | i :: is, ws, w1 => match w1 with
    | [] => ws
    | c :: w1 => pv_ins is (ws.set i c) w1
theorem pv_ins_mem : ∀ (is : List Nat) (ws w1 : va_W), is.length = w1.length → ∀ (k : Nat) (q : Nat × va_E), (pv_ins is ws w1)[k]? = some q → (∃ j : Nat, w1[j]? = some q) ∨ (ws[k]? = some q ∧ k ∉ is)
  | [], ws, w1, _, k, q, h => Or.inr ⟨h, List.not_mem_nil⟩
  | i :: is, ws, [], hl, k, q, h => by simp at hl
  | i :: is, ws, c :: w1, hl, k, q, h => by
    have hl' : is.length = w1.length := by simpa using hl
    rcases pv_ins_mem is (ws.set i c) w1 hl' k q h with ⟨j, hj⟩ | ⟨h1, h2⟩
    · exact Or.inl ⟨j + 1, by simpa using hj⟩
    · rw [List.getElem?_set] at h1
      by_cases hk : i = k
      · rw [if_pos hk] at h1
        by_cases hlt : i < ws.length
        · rw [if_pos hlt] at h1
          exact Or.inl ⟨0, by simpa using h1⟩
        · rw [if_neg hlt] at h1; cases h1
      · rw [if_neg hk] at h1
        refine Or.inr ⟨h1, ?_⟩
        intro hm
        rcases List.mem_cons.mp hm with hm | hm
        · exact hk hm.symm
        · exact h2 hm
section PVW
variable {p : Program} {l : Launch} {e : Env} {R : Room} {s : State} {m : MethodId} {args : Array Value} {below : List Frame} {meth : Method} {c : Code} {H : Heap} {locs : List Loc} {cells slots : Nat} {Q : State → Prop}
variable {cc : ByteArray} {pc : Nat} {ls : Array Slot} {rest st0 st1 : List Value} {E : pv_E} {A : Nat → Prop}
theorem pv_goRO {a : Array Value} {o : Option Value} {free : Addr → Prop} (hr : va_Run p l e R s m args below meth c H locs cells slots 0 0 (F0 m pc ls st0) rest (pv_Ro o a) free) (hS : va_S A s.heap H locs) (hf : ∀ q, free q → A q)
    (kk : ∀ locs1 : List Loc, va_S A s.heap H locs1 → W p l e R s m args below meth c H locs1 cells slots Q (F0 m (pc + 3) ls (o.toList ++ rest))) : W p l e R s m args below meth c H locs cells slots Q (F0 m pc ls st0) := by
  intro T hT X
  obtain ⟨v, st₀, t, T', L, h0, X', hL, e1, e2, ⟨hv, hh⟩, st⟩ := hr T hT X
  cases hv
  have hH : T'.heap = H := by rw [e1, hh, h0]
  obtain ⟨t2, a1, b1⟩ := kk (locs ++ L) ⟨hS.1, hS.2.1, fun q hq => by
      rcases List.mem_append.mp hq with h | h
      · exact hS.2.2 q h
      · exact hf _ (hL q h)⟩ T' hH X'
  exact ⟨t2, st t2 a1, b1⟩
theorem pv_goRW {a : Array Value} {o : Option Value} {free : Addr → Prop} {wc w1 : va_W} (hr : va_Run p l e R s m args below meth c H locs cells slots 0 0 (F0 m pc ls st0) rest (pv_Rw E wc H.size o w1 a) free) (hS : va_S A s.heap H locs) (hf : ∀ q, free q → A q) (hA1 : ∀ q, va_A wc H.size q → A q)
    (kk : ∀ (H1 : Heap) (locs1 : List Loc), va_P E.1 vwCl w1 H1 → (∀ q : Nat, q < H.size → ¬ va_A wc H.size q → H1[q]? = H[q]?) → va_S A s.heap H1 locs1 → W p l e R s m args below meth c H1 locs1 cells slots Q (F0 m (pc + 3) ls (o.toList ++ rest))) : W p l e R s m args below meth c H locs cells slots Q (F0 m pc ls st0) := by
  intro T hT X
  obtain ⟨v, st₀, t, T', L, h0, X', hL, e1, e2, ⟨hv, hp, hz, hk⟩, st⟩ := hr T hT X
  cases hv
  rw [h0] at hz hk
  obtain ⟨t2, a1, b1⟩ := kk T'.heap (locs ++ L) (by rw [e1]; exact hp) (fun q h1 h2 => by rw [e1]; exact hk q h1 h2)
    ⟨Nat.le_trans hS.1 (by rw [e1]; exact hz), fun q h1 h2 => by rw [e1, hk q (Nat.lt_of_lt_of_le h1 hS.1) (fun z => h2 (hA1 q z))]; exact hS.2.1 q h1 h2, fun q hq => by
      rcases List.mem_append.mp hq with h | h
      · exact hS.2.2 q h
      · exact hf _ (hL q h)⟩ T' rfl X'
  exact ⟨t2, st t2 a1, b1⟩
variable {y : MethodName} {bytes : ByteArray} {maxL nL n index : Nat} {ret : Option FieldType} {wl : List Cond} {rm : Room} {Ts : List Cond} {own C host : String} {b : Addr} {ws wc : va_W} {o : Option Value}
/-- a static method that only reads -/
theorem pv_sRO (As : List Value) (S : CallFix p m c cc nL s args Ts own) (hE : pv_Ev E A s s.heap) (hA : ∀ q, s.heap.size ≤ q → A q) (hS : va_S A s.heap H locs) (hP : va_P E.1 vwCl ws H) (hD : va_D A ws) (hM : pv_RO l E y wl rm wc As o)
    (cw : CallB R s args own index y bytes maxL ret wl rm 0 0 n ∧ (Cond.static y).before args s = true) (is : List Nat) (hn : va_nd is = true) (hs : is.map (fun i => ws[i]?) = wc.map some) (hlen : As.length = n) (hsz : ls.size = nL) (hst : st0 = As.reverse ++ rest) (hst1 : o.toList ++ rest = st1) (hrm : (rest.map fun v => v.category).sum ≤ 8) (hdg : decode cc pc = .ok (.invokestatic index, 3)) (hc : cells ≤ R.cells ∧ slots ≤ R.slots)
    (kk : ∀ locs1 : List Loc, va_S A s.heap H locs1 → W p l e R s m args below meth c H locs1 cells slots Q (F0 m (pc + 3) ls st1)) : W p l e R s m args below meth c H locs cells slots Q (F0 m pc ls st0) :=
  pv_goRO (va_runS (As := As) (rest := rest) S (hM H.size) cw ⟨pv_blind, pv_pre hE hS hA hP hD is hn hs⟩ rfl hlen hsz hst (lv_room hrm) hdg hc) hS (va_free hD hS hA is hs) (fun locs1 hS1 => hst1 ▸ kk locs1 hS1)
/-- a static method of a nest mate that only reads -/
theorem pv_sROn (As : List Value) (S : CallFix p m c cc nL s args Ts own) (hE : pv_Ev E A s s.heap) (hA : ∀ q, s.heap.size ≤ q → A q) (hS : va_S A s.heap H locs) (hP : va_P E.1 vwCl ws H) (hD : va_D A ws) (hM : pv_RO l E y wl rm wc As o)
    (cw : va_CN R s args own index y host bytes maxL ret wl rm 0 0 n ∧ (Cond.static y).before args s = true) (is : List Nat) (hn : va_nd is = true) (hs : is.map (fun i => ws[i]?) = wc.map some) (hlen : As.length = n) (hsz : ls.size = nL) (hst : st0 = As.reverse ++ rest) (hst1 : o.toList ++ rest = st1) (hrm : (rest.map fun v => v.category).sum ≤ 8) (hdg : decode cc pc = .ok (.invokestatic index, 3)) (hc : cells ≤ R.cells ∧ slots ≤ R.slots)
    (kk : ∀ locs1 : List Loc, va_S A s.heap H locs1 → W p l e R s m args below meth c H locs1 cells slots Q (F0 m (pc + 3) ls st1)) : W p l e R s m args below meth c H locs cells slots Q (F0 m pc ls st0) :=
  pv_goRO (va_runSN (As := As) (rest := rest) S (hM H.size) ⟨cw.1, cw.2, trivial⟩ ⟨pv_blind, pv_pre hE hS hA hP hD is hn hs⟩ rfl hlen hsz hst (lv_room hrm) hdg hc) hS (va_free hD hS hA is hs) (fun locs1 hS1 => hst1 ▸ kk locs1 hS1)
/-- a method of an object that only reads -/
theorem pv_vRO (As : List Value) (S : CallFix p m c cc nL s args Ts own) (hE : pv_Ev E A s s.heap) (hA : ∀ q, s.heap.size ≤ q → A q) (hS : va_S A s.heap H locs) (hP : va_P E.1 vwCl ws H) (hD : va_D A ws) (hM : pv_RO l E y wl rm wc (.ref b :: As) o)
    (cw : CallW R s args own C index y bytes maxL ret wl rm 0 0 n) (hrv : ∃ cellB : Cell, H[b]? = some cellB ∧ cellB.vm.isStatics = false ∧ s.vm.findClass C = some cellB.cls) (is : List Nat) (hn : va_nd is = true) (hs : is.map (fun i => ws[i]?) = wc.map some) (hlen : As.length = n) (hsz : ls.size = nL) (hst : st0 = As.reverse ++ .ref b :: rest) (hst1 : o.toList ++ rest = st1) (hrm : (rest.map fun v => v.category).sum ≤ 8) (hdg : decode cc pc = .ok (.invokevirtual index, 3)) (hc : cells ≤ R.cells ∧ slots ≤ R.slots)
    (kk : ∀ locs1 : List Loc, va_S A s.heap H locs1 → W p l e R s m args below meth c H locs1 cells slots Q (F0 m (pc + 3) ls st1)) : W p l e R s m args below meth c H locs cells slots Q (F0 m pc ls st0) :=
  pv_goRO (va_runV (As := As) (rest := rest) S (hM H.size) cw ⟨pv_blind, hrv, pv_pre hE hS hA hP hD is hn hs⟩ rfl hlen hsz hst (lv_room hrm) hdg hc) hS (va_free hD hS hA is hs) (fun locs1 hS1 => hst1 ▸ kk locs1 hS1)
/-- the cells of w1 put at the places is -/
theorem pv_wjoin {w1 ws' : va_W} {H1 : Heap} (hP : va_P E.1 vwCl ws H) (hD : va_D A ws) (is : List Nat) (hs : is.map (fun i => ws[i]?) = wc.map some) (hlen : is.length = w1.length) (hN : pv_ins is ws w1 = ws')
    (hP1 : va_P E.1 vwCl w1 H1) (hk : ∀ q : Nat, q < H.size → ¬ va_A wc H.size q → H1[q]? = H[q]?) : va_P E.1 vwCl ws' H1 := by
  subst hN
  intro k q hq
  rcases pv_ins_mem is ws w1 hlen k q hq with ⟨j, hj⟩ | ⟨hw, hni⟩
  · exact hP1 j q hj
  · have hl := (hP k q hw).lt
    refine (hP k q hw).kept (hk q.1 hl ?_)
    rintro (⟨k2, e, h⟩ | h)
    · have h1 : (is.map (fun i => ws[i]?))[k2]? = some (some (q.1, e)) := by rw [hs, List.getElem?_map, h]; rfl
      rw [List.getElem?_map] at h1
      cases hi : is[k2]? with
      | none => rw [hi] at h1; cases h1
      | some i =>
        rw [hi] at h1
        have h2 := hD.1 k i q (q.1, e) hw (Option.some.inj h1) rfl
        subst h2
        exact hni (List.mem_of_getElem? hi)
    · omega
/-- a static method that writes -/
theorem pv_sRW {w1 ws' : va_W} (As : List Value) (S : CallFix p m c cc nL s args Ts own) (hE : pv_Ev E A s s.heap) (hA : ∀ q, s.heap.size ≤ q → A q) (hS : va_S A s.heap H locs) (hP : va_P E.1 vwCl ws H) (hD : va_D A ws) (hM : pv_RW l E y wl rm wc As o w1)
    (cw : CallB R s args own index y bytes maxL ret wl rm 0 0 n ∧ (Cond.static y).before args s = true) (is : List Nat) (hn : va_nd is = true) (hs : is.map (fun i => ws[i]?) = wc.map some) (hlw : is.length = w1.length) (hN : pv_ins is ws w1 = ws')
    (hlen : As.length = n) (hsz : ls.size = nL) (hst : st0 = As.reverse ++ rest) (hst1 : o.toList ++ rest = st1) (hrm : (rest.map fun v => v.category).sum ≤ 8) (hdg : decode cc pc = .ok (.invokestatic index, 3)) (hc : cells ≤ R.cells ∧ slots ≤ R.slots)
    (kk : ∀ (H1 : Heap) (locs1 : List Loc), va_P E.1 vwCl ws' H1 → va_S A s.heap H1 locs1 → W p l e R s m args below meth c H1 locs1 cells slots Q (F0 m (pc + 3) ls st1)) : W p l e R s m args below meth c H locs cells slots Q (F0 m pc ls st0) :=
  pv_goRW (va_runS (As := As) (rest := rest) S (hM H.size) cw ⟨pv_blind, pv_pre hE hS hA hP hD is hn hs⟩ rfl hlen hsz hst (lv_room hrm) hdg hc) hS (va_free hD hS hA is hs) (va_free hD hS hA is hs) (fun H1 locs1 hP1 hk hS1 => hst1 ▸ kk H1 locs1 (pv_wjoin hP hD is hs hlw hN hP1 hk) hS1)
/-- a method of an object that writes -/
theorem pv_vRW {w1 ws' : va_W} (As : List Value) (S : CallFix p m c cc nL s args Ts own) (hE : pv_Ev E A s s.heap) (hA : ∀ q, s.heap.size ≤ q → A q) (hS : va_S A s.heap H locs) (hP : va_P E.1 vwCl ws H) (hD : va_D A ws) (hM : pv_RW l E y wl rm wc (.ref b :: As) o w1)
    (cw : CallW R s args own C index y bytes maxL ret wl rm 0 0 n) (hrv : ∃ cellB : Cell, H[b]? = some cellB ∧ cellB.vm.isStatics = false ∧ s.vm.findClass C = some cellB.cls) (is : List Nat) (hn : va_nd is = true) (hs : is.map (fun i => ws[i]?) = wc.map some) (hlw : is.length = w1.length) (hN : pv_ins is ws w1 = ws')
    (hlen : As.length = n) (hsz : ls.size = nL) (hst : st0 = As.reverse ++ .ref b :: rest) (hst1 : o.toList ++ rest = st1) (hrm : (rest.map fun v => v.category).sum ≤ 8) (hdg : decode cc pc = .ok (.invokevirtual index, 3)) (hc : cells ≤ R.cells ∧ slots ≤ R.slots)
    (kk : ∀ (H1 : Heap) (locs1 : List Loc), va_P E.1 vwCl ws' H1 → va_S A s.heap H1 locs1 → W p l e R s m args below meth c H1 locs1 cells slots Q (F0 m (pc + 3) ls st1)) : W p l e R s m args below meth c H locs cells slots Q (F0 m pc ls st0) :=
  pv_goRW (va_runV (As := As) (rest := rest) S (hM H.size) cw ⟨pv_blind, hrv, pv_pre hE hS hA hP hD is hn hs⟩ rfl hlen hsz hst (lv_room hrm) hdg hc) hS (va_free hD hS hA is hs) (va_free hD hS hA is hs) (fun H1 locs1 hP1 hk hS1 => hst1 ▸ kk H1 locs1 (pv_wjoin hP hD is hs hlw hN hP1 hk) hS1)
/-- the callee's world is the caller's -/
theorem pv_idx {ws : va_W} : (List.range ws.length).map (fun i => ws[i]?) = ws.map some := by
  apply List.ext_getElem?
  intro i
  simp only [List.getElem?_map]
  by_cases h : i < ws.length
  · rw [List.getElem?_range h, List.getElem?_eq_getElem h]
    simp [List.getElem?_eq_getElem h]
  · rw [List.getElem?_eq_none (by simpa using h), List.getElem?_eq_none (by simpa using h)]
    rfl
theorem pv_nd_range' : ∀ (n k : Nat), va_nd (List.range' k n) = true
  | 0, _ => rfl
  | n + 1, k => by
    rw [List.range'_succ]
    simp only [va_nd, Bool.and_eq_true, decide_eq_true_eq]
    refine ⟨?_, pv_nd_range' n (k + 1)⟩
    rw [List.mem_range'_1]
    omega
theorem pv_nd (n : Nat) : va_nd (List.range n) = true := by rw [List.range_eq_range']; exact pv_nd_range' n 0
theorem pv_sROf (As : List Value) (S : CallFix p m c cc nL s args Ts own) (hE : pv_Ev E A s s.heap) (hA : ∀ q, s.heap.size ≤ q → A q) (hS : va_S A s.heap H locs) (hP : va_P E.1 vwCl ws H) (hD : va_D A ws) (hM : pv_RO l E y wl rm ws As o)
    (cw : CallB R s args own index y bytes maxL ret wl rm 0 0 n ∧ (Cond.static y).before args s = true) (hlen : As.length = n) (hsz : ls.size = nL) (hst : st0 = As.reverse ++ rest) (hst1 : o.toList ++ rest = st1) (hrm : (rest.map fun v => v.category).sum ≤ 8) (hdg : decode cc pc = .ok (.invokestatic index, 3)) (hc : cells ≤ R.cells ∧ slots ≤ R.slots)
    (kk : ∀ locs1 : List Loc, va_S A s.heap H locs1 → W p l e R s m args below meth c H locs1 cells slots Q (F0 m (pc + 3) ls st1)) : W p l e R s m args below meth c H locs cells slots Q (F0 m pc ls st0) :=
  pv_sRO As S hE hA hS hP hD hM cw _ (pv_nd _) pv_idx hlen hsz hst hst1 hrm hdg hc kk
theorem pv_vROf (As : List Value) (S : CallFix p m c cc nL s args Ts own) (hE : pv_Ev E A s s.heap) (hA : ∀ q, s.heap.size ≤ q → A q) (hS : va_S A s.heap H locs) (hP : va_P E.1 vwCl ws H) (hD : va_D A ws) (hM : pv_RO l E y wl rm ws (.ref b :: As) o)
    (cw : CallW R s args own C index y bytes maxL ret wl rm 0 0 n) (hrv : ∃ cellB : Cell, H[b]? = some cellB ∧ cellB.vm.isStatics = false ∧ s.vm.findClass C = some cellB.cls) (hlen : As.length = n) (hsz : ls.size = nL) (hst : st0 = As.reverse ++ .ref b :: rest) (hst1 : o.toList ++ rest = st1) (hrm : (rest.map fun v => v.category).sum ≤ 8) (hdg : decode cc pc = .ok (.invokevirtual index, 3)) (hc : cells ≤ R.cells ∧ slots ≤ R.slots)
    (kk : ∀ locs1 : List Loc, va_S A s.heap H locs1 → W p l e R s m args below meth c H locs1 cells slots Q (F0 m (pc + 3) ls st1)) : W p l e R s m args below meth c H locs cells slots Q (F0 m pc ls st0) :=
  pv_vRO As S hE hA hS hP hD hM cw hrv _ (pv_nd _) pv_idx hlen hsz hst hst1 hrm hdg hc kk
theorem pv_vRWf {w1 : va_W} (As : List Value) (S : CallFix p m c cc nL s args Ts own) (hE : pv_Ev E A s s.heap) (hA : ∀ q, s.heap.size ≤ q → A q) (hS : va_S A s.heap H locs) (hP : va_P E.1 vwCl ws H) (hD : va_D A ws) (hM : pv_RW l E y wl rm ws (.ref b :: As) o w1)
    (cw : CallW R s args own C index y bytes maxL ret wl rm 0 0 n) (hrv : ∃ cellB : Cell, H[b]? = some cellB ∧ cellB.vm.isStatics = false ∧ s.vm.findClass C = some cellB.cls)
    (hlen : As.length = n) (hsz : ls.size = nL) (hst : st0 = As.reverse ++ .ref b :: rest) (hst1 : o.toList ++ rest = st1) (hrm : (rest.map fun v => v.category).sum ≤ 8) (hdg : decode cc pc = .ok (.invokevirtual index, 3)) (hc : cells ≤ R.cells ∧ slots ≤ R.slots)
    (kk : ∀ (H1 : Heap) (locs1 : List Loc), va_P E.1 vwCl w1 H1 → va_S A s.heap H1 locs1 → W p l e R s m args below meth c H1 locs1 cells slots Q (F0 m (pc + 3) ls st1)) : W p l e R s m args below meth c H locs cells slots Q (F0 m pc ls st0) :=
  pv_goRW (va_runV (As := As) (rest := rest) S (hM H.size) cw ⟨pv_blind, hrv, pv_pre hE hS hA hP hD _ (pv_nd _) pv_idx⟩ rfl hlen hsz hst (lv_room hrm) hdg hc) hS (va_free hD hS hA _ pv_idx) (va_free hD hS hA _ pv_idx) (fun H1 locs1 hP1 _ hS1 => hst1 ▸ kk H1 locs1 hP1 hS1)
/-- returns -/
theorem pv_riRO {v F : Int32} (hx : p.tables.exec = Jvm.exec) (hb : c.code = cc) (hr : meth.sig.returnType = some .int) (hlk : meth.locks = false) (hS : va_S A s.heap s.heap locs) (h : v = F) (hdg : decode cc pc = .ok (.ireturn, 1)) : W p l e R s m args below meth c s.heap locs 0 0 (MQ below (pv_Ro (some (.int F))) args s 0 0 A) (F0 m pc ls [.int v]) := by
  subst h
  exact W.iret hx hb hr (fun t ht _ => ⟨rfl, ht⟩) hS.2.2 hdg hlk
theorem pv_rzRO {v F : Int32} {ty : FieldType} (hx : p.tables.exec = Jvm.exec) (hb : c.code = cc) (hr : meth.sig.returnType = some ty) (hlk : meth.locks = false) (hS : va_S A s.heap s.heap locs) (h : v = F) (hnw : narrow ty (.int v) = .int v) (hdg : decode cc pc = .ok (.ireturn, 1)) : W p l e R s m args below meth c s.heap locs 0 0 (MQ below (pv_Ro (some (.int F))) args s 0 0 A) (F0 m pc ls [.int v]) := by
  subst h
  exact W.zret hx hb hr hnw (fun t ht _ => ⟨rfl, ht⟩) hS.2.2 hdg hlk
theorem pv_rlRO {v F : Int64} (hx : p.tables.exec = Jvm.exec) (hb : c.code = cc) (hr : meth.sig.returnType = some .long) (hlk : meth.locks = false) (hS : va_S A s.heap s.heap locs) (h : v = F) (hdg : decode cc pc = .ok (.lreturn, 1)) : W p l e R s m args below meth c s.heap locs 0 0 (MQ below (pv_Ro (some (.long F))) args s 0 0 A) (F0 m pc ls [.long v]) := by
  subst h
  exact W.lret hx hb hr (fun t ht _ => ⟨rfl, ht⟩) hS.2.2 hdg hlk
theorem pv_rvRO (hx : p.tables.exec = Jvm.exec) (hb : c.code = cc) (hr : meth.sig.returnType = none) (hlk : meth.locks = false) (hS : va_S A s.heap s.heap locs) (hdg : decode cc pc = .ok (.return_, 1)) : W p l e R s m args below meth c s.heap locs 0 0 (MQ below (pv_Ro none) args s 0 0 A) (F0 m pc ls []) :=
  W.vret hx hb hr (fun t ht _ => ⟨rfl, ht⟩) hS.2.2 hdg hlk
theorem pv_riRW {T : Type} {w : T → va_W} {v : Int32} {u : T} {F : Int32 × T} {sz : Nat} (hx : p.tables.exec = Jvm.exec) (hb : c.code = cc) (hr : meth.sig.returnType = some .int) (hlk : meth.locks = false) (hA : va_A ws sz = A) (hS : va_S A s.heap H locs) (hP : va_P E.1 vwCl (w u) H) (h : (v, u) = F) (hdg : decode cc pc = .ok (.ireturn, 1)) : W p l e R s m args below meth c H locs 0 0 (MQ below (pv_Rw E ws sz (some (.int F.1)) (w F.2)) args s 0 0 A) (F0 m pc ls [.int v]) := by
  subst h
  exact W.iret hx hb hr (fun t ht _ => ⟨rfl, by rw [ht]; exact hP, by rw [hA]; exact hS.F ht⟩) hS.2.2 hdg hlk
theorem pv_rzRW {T : Type} {w : T → va_W} {v : Int32} {u : T} {F : Int32 × T} {sz : Nat} {ty : FieldType} (hx : p.tables.exec = Jvm.exec) (hb : c.code = cc) (hr : meth.sig.returnType = some ty) (hlk : meth.locks = false) (hA : va_A ws sz = A) (hS : va_S A s.heap H locs) (hP : va_P E.1 vwCl (w u) H) (h : (v, u) = F) (hnw : narrow ty (.int v) = .int v) (hdg : decode cc pc = .ok (.ireturn, 1)) : W p l e R s m args below meth c H locs 0 0 (MQ below (pv_Rw E ws sz (some (.int F.1)) (w F.2)) args s 0 0 A) (F0 m pc ls [.int v]) := by
  subst h
  exact W.zret hx hb hr hnw (fun t ht _ => ⟨rfl, by rw [ht]; exact hP, by rw [hA]; exact hS.F ht⟩) hS.2.2 hdg hlk
theorem pv_rlRW {T : Type} {w : T → va_W} {v : Int64} {u : T} {F : Int64 × T} {sz : Nat} (hx : p.tables.exec = Jvm.exec) (hb : c.code = cc) (hr : meth.sig.returnType = some .long) (hlk : meth.locks = false) (hA : va_A ws sz = A) (hS : va_S A s.heap H locs) (hP : va_P E.1 vwCl (w u) H) (h : (v, u) = F) (hdg : decode cc pc = .ok (.lreturn, 1)) : W p l e R s m args below meth c H locs 0 0 (MQ below (pv_Rw E ws sz (some (.long F.1)) (w F.2)) args s 0 0 A) (F0 m pc ls [.long v]) := by
  subst h
  exact W.lret hx hb hr (fun t ht _ => ⟨rfl, by rw [ht]; exact hP, by rw [hA]; exact hS.F ht⟩) hS.2.2 hdg hlk
theorem pv_rvRW {T : Type} {w : T → va_W} {u F : T} {sz : Nat} (hx : p.tables.exec = Jvm.exec) (hb : c.code = cc) (hr : meth.sig.returnType = none) (hlk : meth.locks = false) (hA : va_A ws sz = A) (hS : va_S A s.heap H locs) (hP : va_P E.1 vwCl (w u) H) (h : u = F) (hdg : decode cc pc = .ok (.return_, 1)) : W p l e R s m args below meth c H locs 0 0 (MQ below (pv_Rw E ws sz none (w F)) args s 0 0 A) (F0 m pc ls []) := by
  subst h
  exact W.vret hx hb hr (fun t ht _ => ⟨rfl, by rw [ht]; exact hP, by rw [hA]; exact hS.F ht⟩) hS.2.2 hdg hlk
end PVW
/-- a contract out of one walk -/
theorem pv_mk {l : Launch} {E : pv_E} {y : MethodName} {wl wl' : List Cond} {rm : Room} {ws : va_W} {av : List Value} {Qc : Array Value → State → Outcome → State → Prop} {cc : ByteArray} {maxL : Nat} {ret : Option FieldType} {sz : Nat} (hy : plainName y.cls = true) (hw : wl = Cond.code y cc maxL ret :: wl') (hn : (lg_sl av).length ≤ maxL)
    (body : ∀ (p : Program) (e : Env) (s : State) (m : MethodId) (args : Array Value) (below : List Frame) (meth : Method) (c : Code) (A : Nat → Prop), p.tables.exec = Jvm.exec → c.code = cc → meth.sig.returnType = ret → c.maxLocals = maxL → s.vm.findClass y.cls = some m.cls → (∀ w ∈ wl, w.before args s = true) → meth.locks = false → va_A ws sz = A → va_P E.1 vwCl ws s.heap → va_D A ws → (∀ q, s.heap.size ≤ q → A q) → pv_Ev E A s s.heap → va_S A s.heap s.heap [] → ∀ ls : Array Slot, lv_has ls maxL (lv_args 0 av) →
      W p l e rm s m args below meth c s.heap [] 0 0 (MQ below Qc args s 0 0 A) (F0 m 0 ls [])) : Met l y wl rm (pv_Pre E ws sz av) Qc 0 0 (va_A ws sz) := by
  refine Met.ofW hy hw ?_
  intro p e s m args below meth c s₁ B hml hv
  obtain ⟨rfl, hsz, hP, hD0, hE⟩ := hv
  have hD := hD0.self (sz := s.heap.size)
  subst hsz
  have hl := lv_entry av (n := maxL) hn
  rw [lg_entry_eq]
  exact body p e s m _ below meth c _ B.exec B.bytes B.returns hml (findClass_of_methodNamed B.named) (atoms_spec (ws := wl) B.pre) B.notSynchronized rfl hP hD (fun q h => Or.inr h) hE va_S.rf _ hl
/-- guards of the mirrors: an index within; a truth value -/
def pv_gd {α : Type} (i : Int32) (n : Nat) (k : Option α) : Option α := if i < 0 ∨ n ≤ i.toNatClampNeg then none else k
def pv_gz {α : Type} (v : Int32) (k : Option α) : Option α := if v = 0 ∨ v = 1 then k else none
theorem pv_gd_some {α : Type} {i : Int32} {n : Nat} {k : Option α} {F : α} (h : pv_gd i n k = some F) : vp_in i n ∧ k = some F := by
  unfold pv_gd at h
  by_cases hc : i < 0 ∨ n ≤ i.toNatClampNeg
  · rw [if_pos hc] at h; cases h
  · rw [if_neg hc] at h; exact ⟨hc, h⟩
theorem pv_gz_some {α : Type} {v : Int32} {k : Option α} {F : α} (h : pv_gz v k = some F) : (narrow .boolean (.int v) = .int v ∧ fits .boolean (.int v) = true) ∧ k = some F := by
  unfold pv_gz at h
  by_cases hc : v = 0 ∨ v = 1
  · rw [if_pos hc] at h
    refine ⟨?_, h⟩
    rcases hc with rfl | rfl <;> exact ⟨rfl, rfl⟩
  · rw [if_neg hc] at h; cases h
theorem pv_bind {α β : Type} {x : Option α} {f : α → Option β} {F : β} (h : Option.bind x f = some F) : ∃ u, x = some u ∧ f u = some F := by
  cases x with
  | none => cases h
  | some u => exact ⟨u, rfl, h⟩
theorem pv_pos {α : Type} {c : Prop} {d : Decidable c} {a b F : α} (hc : c) (h : @ite α c d a b = F) : a = F := by rw [if_pos hc] at h; exact h
theorem pv_neg {α : Type} {c : Prop} {d : Decidable c} {a b F : α} (hc : ¬ c) (h : @ite α c d a b = F) : b = F := by rw [if_neg hc] at h; exact h
theorem pv_no {α : Type} {F : α} (h : (none : Option α) = some F) : False := by cases h
def pv_rem (x y : Int32) : Int32 := x - x / y * y
def pv_ushr (x y : Int32) : Int32 := (x.toUInt32 >>> (y.toUInt32 &&& Int32.toUInt32 31)).toInt32
theorem pv_irem {p : Program} {l : Launch} {e : Env} {R : Room} {s : State} {m : MethodId} {args : Array Value} {below : List Frame} {meth : Method} {c : Code} {H : Heap} {locs : List Loc} {cells slots : Nat} {Q : State → Prop} {cc : ByteArray} {pc : Nat} {ls : Array Slot} {rest : List Value} (hexec : p.tables.exec = Jvm.exec) (hb : c.code = cc) {x y : Int32} (hdg : decode cc pc = .ok (.irem, 1)) (hne : ¬ y = 0)
    (k : W p l e R s m args below meth c H locs cells slots Q (F0 m (pc + 1) ls (.int (pv_rem x y) :: rest))) : W p l e R s m args below meth c H locs cells slots Q (F0 m pc ls (.int y :: .int x :: rest)) := lv_irem hexec hb hdg hne k
theorem pv_swr {x : Int32} (lo hi : Int) (h : ∀ k : Int, lo ≤ k → k ≤ hi → ¬ x = Int32.ofInt k) : x.toInt < lo ∨ hi < x.toInt := by
  by_cases h1 : x.toInt < lo
  · exact Or.inl h1
  · by_cases h2 : hi < x.toInt
    · exact Or.inr h2
    · exact absurd (Int32.ofInt_toInt x).symm (h x.toInt (by omega) (by omega))
theorem pv_sh4 {x : Int32} (h : vp_in x 4) : x = 0 ∨ x = 1 ∨ x = 2 ∨ x = 3 := by
  obtain ⟨j, hj, rfl⟩ := vp_in_of h (by decide)
  rcases (show j = 0 ∨ j = 1 ∨ j = 2 ∨ j = 3 by omega) with rfl | rfl | rfl | rfl
  · exact Or.inl rfl
  · exact Or.inr (Or.inl rfl)
  · exact Or.inr (Or.inr (Or.inl rfl))
  · exact Or.inr (Or.inr (Or.inr rfl))
theorem pv_cl0 : (0 : Int32).toNatClampNeg = 0 := by decide
theorem pv_cl1 : (1 : Int32).toNatClampNeg = 1 := by decide
theorem pv_cl2 : (2 : Int32).toNatClampNeg = 2 := by decide
theorem pv_cl3 : (3 : Int32).toNatClampNeg = 3 := by decide
/-- what System.arraycopy asks of its numbers -/
def pv_cok (sp dp n : Int32) (n0 n1 : Nat) : Prop := ¬ sp < 0 ∧ ¬ dp < 0 ∧ ¬ n < 0 ∧ sp.toNatClampNeg + n.toNatClampNeg ≤ n0 ∧ dp.toNatClampNeg + n.toNatClampNeg ≤ n1
def pv_gc {α : Type} (sp dp n : Int32) (n0 n1 : Nat) (k : Option α) : Option α := if ¬ sp < 0 ∧ ¬ dp < 0 ∧ ¬ n < 0 ∧ sp.toNatClampNeg + n.toNatClampNeg ≤ n0 ∧ dp.toNatClampNeg + n.toNatClampNeg ≤ n1 then k else none
theorem pv_gc_some {α : Type} {sp dp n : Int32} {n0 n1 : Nat} {k : Option α} {F : α} (h : pv_gc sp dp n n0 n1 k = some F) : pv_cok sp dp n n0 n1 ∧ k = some F := by
  unfold pv_gc at h
  by_cases hc : ¬ sp < 0 ∧ ¬ dp < 0 ∧ ¬ n < 0 ∧ sp.toNatClampNeg + n.toNatClampNeg ≤ n0 ∧ dp.toNatClampNeg + n.toNatClampNeg ≤ n1
  · rw [if_pos hc] at h; exact ⟨hc, h⟩
  · rw [if_neg hc] at h; cases h
theorem pv_raRO {p : Program} {l : Launch} {e : Env} {R : Room} {s : State} {m : MethodId} {args : Array Value} {below : List Frame} {meth : Method} {c : Code} {locs : List Loc} {cc : ByteArray} {pc : Nat} {ls : Array Slot} {E : pv_E} {A : Nat → Prop} {i F : Nat} (hx : p.tables.exec = Jvm.exec) (hb : c.code = cc) (hr : meth.sig.returnType = some (.object "java/lang/String")) (hlk : meth.locks = false) (hS : va_S A s.heap s.heap locs) (h : i = F) (hdg : decode cc pc = .ok (.areturn, 1)) : W p l e R s m args below meth c s.heap locs 0 0 (MQ below (pv_Ro (some (.ref (pv_k E F)))) args s 0 0 A) (F0 m pc ls [.ref (pv_k E i)]) := by
  subst h
  exact W.aret hx hb hr (Or.inl ⟨_, rfl⟩) (Or.inr ⟨_, rfl⟩) (fun t ht _ => ⟨rfl, ht⟩) hS.2.2 hdg hlk
/-! the worlds -/
abbrev pv_TT : Type := Int32 × Int32 × Int32 × (Nat → Int32) × (Nat → Int32) × (Nat → Int32) × (Nat → Int32) × (Nat → Int32)
abbrev pv_wT (E : pv_E) (a0 a1 a2 a3 a4 a5 : Nat) (t : pv_TT) : va_W := [(a0, .inr (2, [.int t.1, .int t.2.1, .int t.2.2.1, .ref a1, .ref a2, .ref a3, .ref a4, .ref a5])), (a1, .inl (pv_I E, 8, .inl t.2.2.2.1)), (a2, .inl (pv_I E, 2, .inl t.2.2.2.2.1)), (a3, .inl (pv_I E, 2, .inl t.2.2.2.2.2.1)), (a4, .inl (pv_I E, 8, .inl t.2.2.2.2.2.2.1)), (a5, .inl (pv_I E, 8, .inl t.2.2.2.2.2.2.2))]
abbrev pv_GT : Type := (Nat → Int32) × (Nat → Int32) × (Nat → Int32) × (Nat → Int32) × (Nat → Int32)
abbrev pv_wG (E : pv_E) (a0 a1 a2 a3 a4 a5 : Nat) (t : pv_GT) : va_W := [(a0, .inr (0, [.ref a1, .ref a2, .ref a3, .ref a4, .ref a5])), (a1, .inl (pv_I E, 2, .inl t.1)), (a2, .inl (pv_I E, 4, .inl t.2.1)), (a3, .inl (pv_I E, 4, .inl t.2.2.1)), (a4, .inl (pv_I E, 4, .inl t.2.2.2.1)), (a5, .inl (pv_I E, 4, .inl t.2.2.2.2))]
abbrev pv_PT : Type := (Nat → Int32) × Int32 × Int32 × Int32 × Int32 × Int32
abbrev pv_wP (E : pv_E) (a0 a1 : Nat) (t : pv_PT) : va_W := [(a0, .inr (3, [.ref a1, .int t.2.1, .int t.2.2.1, .int t.2.2.2.1, .int t.2.2.2.2.1, .int t.2.2.2.2.2])), (a1, .inl (pv_I E, 120, .inl t.1))]
abbrev pv_ST : Type := Int32 × Int32 × (Nat → Int64)
abbrev pv_wS (E : pv_E) (a0 a1 : Nat) (t : pv_ST) : va_W := [(a0, .inr (1, [.ref a1, .int t.1, .int t.2.1])), (a1, .inl (pv_J E, 40, .inr (.inl t.2.2)))]
abbrev pv_MT : Type := (Nat → Int32) × (Nat → Int32) × (Nat → Int32) × Int32 × (Nat → Int32) × (Nat → Int32) × (Nat → Int32) × (Nat → Int32) × Int32 × Int32 × Int32 × Int32 × Int32 × Int32 × (Nat → Int32) × (Nat → Int32) × (Nat → Int64)
abbrev pv_wM (E : pv_E) (a0 a1 a2 a3 a4 a5 a6 a7 a8 a9 a10 : Nat) (t : pv_MT) : va_W := [(a0, .inr (5, [.ref a1, .ref a2, .ref a3, .int t.2.2.2.1, .ref a4, .ref a5, .ref a6, .ref a7, .int t.2.2.2.2.2.2.2.2.1, .int t.2.2.2.2.2.2.2.2.2.1, .int t.2.2.2.2.2.2.2.2.2.2.1, .int t.2.2.2.2.2.2.2.2.2.2.2.1, .int t.2.2.2.2.2.2.2.2.2.2.2.2.1, .int t.2.2.2.2.2.2.2.2.2.2.2.2.2.1, .ref a8, .ref a9, .ref a10])), (a1, .inl (pv_I E, 31, .inl t.1)), (a2, .inl (pv_I E, 31, .inl t.2.1)), (a3, .inl (pv_I E, 31, .inl t.2.2.1)), (a4, .inl (pv_I E, 7, .inl t.2.2.2.2.1)), (a5, .inl (pv_I E, 16, .inl t.2.2.2.2.2.1)), (a6, .inl (pv_I E, 2, .inl t.2.2.2.2.2.2.1)), (a7, .inl (pv_I E, 120, .inl t.2.2.2.2.2.2.2.1)), (a8, .inl (pv_I E, 4, .inl t.2.2.2.2.2.2.2.2.2.2.2.2.2.2.1)), (a9, .inl (pv_I E, 4, .inl t.2.2.2.2.2.2.2.2.2.2.2.2.2.2.2.1)), (a10, .inl (pv_J E, 160, .inr (.inl t.2.2.2.2.2.2.2.2.2.2.2.2.2.2.2.2)))]
abbrev pv_XT : Type := pv_TT × pv_TT × pv_TT × pv_GT × pv_PT × (Nat → pv_ST) × (Nat → Int32) × Int32
abbrev pv_wX (E : pv_E) (a : Nat → Nat) (x : pv_XT) : va_W := [((a 0), .inr (4, [.ref (a 1), .ref (a 7), .ref (a 13), .ref (a 19), .ref (a 25), .ref (a 27), .ref (a 36), .int x.2.2.2.2.2.2.2])), ((a 1), .inr (2, [.int x.1.1, .int x.1.2.1, .int x.1.2.2.1, .ref (a 2), .ref (a 3), .ref (a 4), .ref (a 5), .ref (a 6)])), ((a 2), .inl (pv_I E, 8, .inl x.1.2.2.2.1)), ((a 3), .inl (pv_I E, 2, .inl x.1.2.2.2.2.1)), ((a 4), .inl (pv_I E, 2, .inl x.1.2.2.2.2.2.1)), ((a 5), .inl (pv_I E, 8, .inl x.1.2.2.2.2.2.2.1)), ((a 6), .inl (pv_I E, 8, .inl x.1.2.2.2.2.2.2.2)), ((a 7), .inr (2, [.int x.2.1.1, .int x.2.1.2.1, .int x.2.1.2.2.1, .ref (a 8), .ref (a 9), .ref (a 10), .ref (a 11), .ref (a 12)])), ((a 8), .inl (pv_I E, 8, .inl x.2.1.2.2.2.1)), ((a 9), .inl (pv_I E, 2, .inl x.2.1.2.2.2.2.1)), ((a 10), .inl (pv_I E, 2, .inl x.2.1.2.2.2.2.2.1)), ((a 11), .inl (pv_I E, 8, .inl x.2.1.2.2.2.2.2.2.1)), ((a 12), .inl (pv_I E, 8, .inl x.2.1.2.2.2.2.2.2.2)), ((a 13), .inr (2, [.int x.2.2.1.1, .int x.2.2.1.2.1, .int x.2.2.1.2.2.1, .ref (a 14), .ref (a 15), .ref (a 16), .ref (a 17), .ref (a 18)])), ((a 14), .inl (pv_I E, 8, .inl x.2.2.1.2.2.2.1)), ((a 15), .inl (pv_I E, 2, .inl x.2.2.1.2.2.2.2.1)), ((a 16), .inl (pv_I E, 2, .inl x.2.2.1.2.2.2.2.2.1)), ((a 17), .inl (pv_I E, 8, .inl x.2.2.1.2.2.2.2.2.2.1)), ((a 18), .inl (pv_I E, 8, .inl x.2.2.1.2.2.2.2.2.2.2)), ((a 19), .inr (0, [.ref (a 20), .ref (a 21), .ref (a 22), .ref (a 23), .ref (a 24)])), ((a 20), .inl (pv_I E, 2, .inl x.2.2.2.1.1)), ((a 21), .inl (pv_I E, 4, .inl x.2.2.2.1.2.1)), ((a 22), .inl (pv_I E, 4, .inl x.2.2.2.1.2.2.1)), ((a 23), .inl (pv_I E, 4, .inl x.2.2.2.1.2.2.2.1)), ((a 24), .inl (pv_I E, 4, .inl x.2.2.2.1.2.2.2.2)), ((a 25), .inr (3, [.ref (a 26), .int x.2.2.2.2.1.2.1, .int x.2.2.2.2.1.2.2.1, .int x.2.2.2.2.1.2.2.2.1, .int x.2.2.2.2.1.2.2.2.2.1, .int x.2.2.2.2.1.2.2.2.2.2])), ((a 26), .inl (pv_I E, 120, .inl x.2.2.2.2.1.1)), ((a 27), .inl (pv_Q E, 4, .inr (.inr (.inr (.inr (fun j => some (a (28 + 2 * j)))))))), ((a 28), .inr (1, [.ref (a 29), .int (x.2.2.2.2.2.1 0).1, .int (x.2.2.2.2.2.1 0).2.1])), ((a 29), .inl (pv_J E, 40, .inr (.inl (x.2.2.2.2.2.1 0).2.2))), ((a 30), .inr (1, [.ref (a 31), .int (x.2.2.2.2.2.1 1).1, .int (x.2.2.2.2.2.1 1).2.1])), ((a 31), .inl (pv_J E, 40, .inr (.inl (x.2.2.2.2.2.1 1).2.2))), ((a 32), .inr (1, [.ref (a 33), .int (x.2.2.2.2.2.1 2).1, .int (x.2.2.2.2.2.1 2).2.1])), ((a 33), .inl (pv_J E, 40, .inr (.inl (x.2.2.2.2.2.1 2).2.2))), ((a 34), .inr (1, [.ref (a 35), .int (x.2.2.2.2.2.1 3).1, .int (x.2.2.2.2.2.1 3).2.1])), ((a 35), .inl (pv_J E, 40, .inr (.inl (x.2.2.2.2.2.1 3).2.2))), ((a 36), .inl (pv_I E, 7, .inl x.2.2.2.2.2.2.1))]
abbrev pv_AL : Type := Nat → Int64
abbrev pv_AI : Type := Nat → Int32
abbrev pv_wAl (E : pv_E) (a0 : Nat) (t : pv_AL) : va_W := [(a0, .inl (pv_J E, 40, .inr (.inl t)))]
abbrev pv_wA8 (E : pv_E) (a0 : Nat) (t : pv_AI) : va_W := [(a0, .inl (pv_I E, 8, .inl t))]
abbrev pv_wA2 (E : pv_E) (a0 : Nat) (t : pv_AI) : va_W := [(a0, .inl (pv_I E, 2, .inl t))]
abbrev pv_wA31 (E : pv_E) (a0 : Nat) (t : pv_AI) : va_W := [(a0, .inl (pv_I E, 31, .inl t))]
