/-! CONSTRUCTORS -/
/-- the end of a constructor: the cells behind it are among Pw -/
def pv_Rc (E : pv_E) (ws : va_W) (sz : Nat) (Pw : va_W → Prop) : Array Value → State → Outcome → State → Prop := va_Qv (S := va_W) Pw (fun w1 t => va_P E.1 vwCl w1 t.heap ∧ va_D (va_A ws sz) w1) (va_A ws sz)
theorem pv_mkC {l : Launch} {E : pv_E} {y : MethodName} {wl wl' : List Cond} {rm : Room} {ws : va_W} {av : List Value} {X : State → Prop} {Qc : Array Value → State → Outcome → State → Prop} {cc : ByteArray} {maxL mc ms : Nat} {sz : Nat} (hy : plainName y.cls = true) (hyn : y.name = "<init>") (hw : wl = Cond.code y cc maxL none :: wl') (hn : (lg_sl av).length ≤ maxL)
    (body : ∀ (p : Program) (e : Env) (s : State) (m : MethodId) (args : Array Value) (below : List Frame) (meth : Method) (c : Code) (A : Nat → Prop), p.tables.exec = Jvm.exec → c.code = cc → meth.sig.returnType = none → c.maxLocals = maxL → s.vm.findClass y.cls = some m.cls → (∀ w ∈ wl, w.before args s = true) → meth.locks = false → meth.name = "<init>" → va_A ws sz = A → va_P E.1 vwCl ws s.heap → va_D A ws → (∀ q, s.heap.size ≤ q → A q) → pv_Ev E A s s.heap → va_S A s.heap s.heap [] → X s → ∀ ls : Array Slot, lv_has ls maxL (lv_args 0 av) →
      W p l e rm s m args below meth c s.heap [] 0 0 (MQ below Qc args s mc ms A) (F0 m 0 ls [])) : Met l y wl rm (fun v U => pv_Pre E ws sz av v U ∧ X U) Qc mc ms (va_A ws sz) := by
  refine Met.ofW hy hw ?_
  intro p e s m args below meth c s₁ B hml hv
  obtain ⟨⟨rfl, hsz, hP, hD0, hE⟩, hX⟩ := hv
  have hD := hD0.self (sz := s.heap.size)
  subst hsz
  have hl := lv_entry av (n := maxL) hn
  rw [lg_entry_eq]
  exact body p e s m _ below meth c _ B.exec B.bytes B.returns hml (findClass_of_methodNamed B.named) (atoms_spec (ws := wl) B.pre) B.notSynchronized ((name_of_methodNamed B.named B.method).1.trans hyn) rfl hP hD (fun q h => Or.inr h) hE va_S.rf hX _ hl
theorem pv_last {α : Type} (l : List α) (x : α) : (l ++ [x])[l.length]? = some x := by simp
theorem pv_rng {w0 : va_W} {x : Nat × va_E} : (List.range w0.length).map (fun i => (w0 ++ [x])[i]?) = w0.map some := by
  rw [← pv_idx (ws := w0)]
  apply List.map_congr_left
  intro i hi
  rw [List.getElem?_append_left (List.mem_range.mp hi)]
section PVC
variable {p : Program} {l : Launch} {e : Env} {R : Room} {s : State} {m : MethodId} {args : Array Value} {below : List Frame} {meth : Method} {c : Code} {H : Heap} {locs : List Loc} {cells slots : Nat} {Q : State → Prop}
variable {cc : ByteArray} {pc : Nat} {ls : Array Slot} {rest st0 st1 : List Value} {E : pv_E} {A : Nat → Prop}
/-- a new array of ints or longs, at the environment's array class -/
theorem pv_newa {ws : va_W} (hx : p.tables.exec = Jvm.exec) (hb : c.code = cc) {atype : ArrayType} (harr : (Cond.arrayClass (newarray.typeOf atype)).before args s = true) {ty : FieldType} (hty : newarray.typeOf atype = ty) (hK : va_K E.1 vwCl (pv_ty E) s) (hP : va_P E.1 vwCl ws H) (hD : va_D A ws) (hS : va_S A s.heap H locs) (hA : ∀ q, s.heap.size ≤ q → A q) (t0 : Nat) {cT : ClassId} (ht : (pv_ty E)[t0]? = some (cT, ty)) (hra : ∀ cA, va_RA s cA ty → cA = cT)
    {n : Int32} {N' : Nat} {a0 : vp_A} (ha : ∀ cA : ClassId, vp_cell cA a0 = arrV cA N' (fun _ => defaultValue ty)) (hn : ¬ n < 0) (hN : n.toNatClampNeg = N') (hbytes : N' * componentBytes ty ≤ 536870912) (hcells : cells + 1 ≤ R.cells) (hslots : slots + N' ≤ R.slots) (hdg : decode cc pc = .ok (.newarray atype, 2))
    (kk : ∀ (q : Nat) (H1 : Heap), va_P E.1 vwCl (ws ++ [(q, .inl (cT, a0))]) H1 → va_D A (ws ++ [(q, .inl (cT, a0))]) → va_S A s.heap H1 locs →
      W p l e R s m args below meth c H1 locs (cells + 1) (slots + N') Q (F0 m (pc + 2) ls (.ref q :: rest))) : W p l e R s m args below meth c H locs cells slots Q (F0 m pc ls (.int n :: rest)) := by
  refine va_newa (D := E.1) (atype := atype) hx hb harr hty hK hP hD hS hA ha hn hN hbytes hcells hslots hdg (fun q cA H1 hK1 hP1 hD1 hS1 => ?_)
  have h1 := (hK1.2 (pv_ty E).length (cA, ty) (by simp)).2
  have e1 := hra cA h1
  subst e1
  exact kk q H1 hP1 hD1 hS1
theorem pv_raI {s : State} {E : pv_E} (hK : va_K E.1 vwCl (pv_ty E) s) (cA : ClassId) (h : va_RA s cA .int) : cA = pv_I E := by
  have h2 : va_RA s (pv_I E) .int := (hK.2 0 (pv_I E, .int) rfl).2
  exact Option.some.inj ((h : s.vm.findClass _ = some cA).symm.trans h2)
theorem pv_raJ {s : State} {E : pv_E} (hK : va_K E.1 vwCl (pv_ty E) s) (cA : ClassId) (h : va_RA s cA .long) : cA = pv_J E := by
  have h2 : va_RA s (pv_J E) .long := (hK.2 1 (pv_J E, .long) rfl).2
  exact Option.some.inj ((h : s.vm.findClass _ = some cA).symm.trans h2)
theorem pv_raQ {s : State} {E : pv_E} (hK : va_K E.1 vwCl (pv_ty E) s) (cA : ClassId) (h : va_RA s cA (.object "ProvinceCards$Sheet")) : cA = pv_Q E := by
  obtain ⟨_, _, _, _, _, h2⟩ := (hK.2 2 (pv_Q E, .object "ProvinceCards$Sheet") rfl).2
  obtain ⟨_, _, _, _, _, h1⟩ := h
  exact Option.some.inj (h1.symm.trans h2)
variable {y : MethodName} {bytes : ByteArray} {maxL nL index : Nat} {wl : List Cond} {rm : Room} {Ts : List Cond} {own host : String} {b : Addr}
/-- the call of a constructor on the world's last cell -/
theorem pv_cI {w0 : va_W} {x0 : va_E} {mc ms : Nat} {Pw : va_W → Prop} (hE : pv_Ev E A s s.heap) (hA : ∀ q, s.heap.size ≤ q → A q) (hS : va_S A s.heap H locs) (hP : va_P E.1 vwCl (w0 ++ [(b, x0)]) H) (hD : va_D A (w0 ++ [(b, x0)]))
    (hr : va_Run p l e R s m args below meth c H locs cells slots mc ms (F0 m pc ls st0) rest (pv_Rc E [(b, x0)] H.size Pw #[.ref b]) (va_A [(b, x0)] H.size))
    (kk : ∀ (H1 : Heap) (locs1 : List Loc) (w1 : va_W), Pw w1 → va_P E.1 vwCl (w0 ++ w1) H1 → va_D A (w0 ++ w1) → va_S A s.heap H1 locs1 → W p l e R s m args below meth c H1 locs1 (cells + mc) (slots + ms) Q (F0 m (pc + 3) ls rest)) : W p l e R s m args below meth c H locs cells slots Q (F0 m pc ls st0) := by
  have hC : [w0.length].map (fun i => (w0 ++ [(b, x0)])[i]?) = [(b, x0)].map some := by simp
  have hFc := va_free (wc := [(b, x0)]) hD hS hA [w0.length] hC
  refine va_callv hr hS (fun q _ h => hFc q h) hFc (fun u t H1 locs1 ht hvm hw hB hz1 hk1 hS1 => ?_)
  obtain ⟨hP1, hD1⟩ := hB
  rw [ht] at hP1
  obtain ⟨hP2, hD2⟩ := va_join (wr := w0) (w1 := u) hP hD [w0.length] (List.range w0.length) hC pv_rng (pv_nd _) (by intro i hi; have := List.mem_range.mp hi; simp; omega) hk1 hFc hP1 hD1
  exact kk H1 locs1 u hw hP2 hD2 hS1
theorem pv_preC {x0 : va_E} {w0 : va_W} {X : State → Prop} (hE : pv_Ev E A s s.heap) (hA : ∀ q, s.heap.size ≤ q → A q) (hS : va_S A s.heap H locs) (hP : va_P E.1 vwCl (w0 ++ [(b, x0)]) H) (hD : va_D A (w0 ++ [(b, x0)])) (hXb : ∀ (U : State) (g : JFrame) (mk : MethodId) (a : Array Value), X U → X (U.calling g mk a)) (hX : ∀ U : State, s.WarmedH U.vm → X U) : PreS s H (fun v U => pv_Pre E [(b, x0)] H.size [.ref b] v U ∧ X U) [.ref b] := by
  have hC : [w0.length].map (fun i => (w0 ++ [(b, x0)])[i]?) = [(b, x0)].map some := by simp
  exact ⟨fun a U g mk h => ⟨pv_blind a U g mk h.1, hXb U g mk a h.2⟩, fun U hU hW => ⟨pv_pre hE hS hA hP hD [w0.length] (by simp [va_nd]) hC U hU hW, hX U hW⟩⟩
end PVC
theorem pv_arr {cA : ClassId} {n : Nat} {f h : Nat → Option Nat} (e : ∀ j, j < n → f j = h j) : vp_cell cA (n, .inr (.inr (.inr (.inr f)))) = vp_cell cA (n, .inr (.inr (.inr (.inr h)))) := by
  rw [vp_cell_q, vp_cell_q]
  unfold arrV
  congr 1
  apply Array.ext
  · simp
  · intro i h1 h2
    have hi : i < n := by simpa using h1
    simp [e i hi]

def m_J7_fill8_5 : Nat → Int32 → Int32 → Int32 → pv_AI → Option (pv_AI)
  | 0 => fun _ _ _ _ => none
  | n + 1 => fun x1 x2 x3 w =>
    if x3 ≤ x2 then (some w) else (pv_gd x2 8 ((m_J7_fill8_5 n) x1 (x2 + 1) x3 (upd w x2.toNatClampNeg x1)))
def m_J7_fill8 (x1 : Int32) (w : pv_AI) : Option (pv_AI) :=
  m_J7_fill8_5 300 x1 0 8 w
abbrev r_J7_fill8 : Room := { frames := 0, cells := 0, slots := 0, locals := 0 }
set_option maxHeartbeats 4000000 in
set_option maxRecDepth 100000 in
theorem c_J7_fill8 (l : Launch) (E : pv_E) (a0 : Nat) (x1 : Int32) (w0 : pv_AI) (F : pv_AI) (hq : m_J7_fill8 x1 w0 = some F) : pv_RW l E yJ7_fill_53178 wsJ7_fill_53178 r_J7_fill8 (pv_wA8 E a0 w0) [.ref a0, .int x1] (none) (pv_wA8 E a0 F) := by
  intro sz
  refine pv_mk (by decide) rfl (Nat.le_of_ble_eq_true rfl) ?_
  intro p e s m args below meth c A hx hb hr hml hown hts hlk hAe hP hD0 hA hE hS ls hl
  have hown : s.vm.findClass RJ7 = some m.cls := hown
  have hK := hE.1
  have hD : ∀ w : pv_AI, va_D A (pv_wA8 E a0 w) := fun w => pv_Dm (ws := pv_wA8 E a0 w0) (ws' := pv_wA8 E a0 w) rfl hD0
  have hP : va_P E.1 vwCl (pv_wA8 E a0 w0) s.heap := hP
  have hl : lv_has ls 4 [(0, .ref a0), (1, .int x1)] := hl
  have L_5 : ∀ n : Nat, ∀ (x1 : Int32) (x2 : Int32) (x3 : Int32) (w : pv_AI) (H : Heap) (locs : List Loc) (ls : Array Slot), va_P E.1 vwCl (pv_wA8 E a0 w) H → va_S A s.heap H locs → lv_has ls 4 [(0, .ref a0), (1, .int x1), (2, .int x2), (3, .int x3)] → m_J7_fill8_5 n x1 x2 x3 w = some F → W p l e r_J7_fill8 s m args below meth c H locs 0 0 (MQ below (pv_Rw E (pv_wA8 E a0 w0) sz (none) ((fun w : pv_AI => pv_wA8 E a0 w) F)) args s 0 0 A) (F0 m 5 ls []) := by
    intro n
    induction n with
    | zero =>
      intro x1 x2 x3 w H locs ls hP hS hl hq
      exact (pv_no hq).elim
    | succ n ih =>
      intro x1 x2 x3 w H locs ls hP hS hl hq
      refine lv_iload_n (pc := 5) hx hb dJ7_fill_53178_5 rfl (lv_at hl 2 rfl) ?_
      refine lv_iload_n (pc := 6) hx hb dJ7_fill_53178_6 rfl (lv_at hl 3 rfl) ?_
      refine lv_icmp_ge (pc := 7) (tgt := 20) hx hb dJ7_fill_53178_7 (by decide) (fun c_1 => ?_) (fun c_1 => ?_)
      · have hq := pv_pos c_1 hq
        exact pv_rvRW (w := fun w : pv_AI => pv_wA8 E a0 w) hx hb hr hlk hAe hS hP (Option.some.inj hq) dJ7_fill_53178_20
      · have hq := pv_neg c_1 hq
        refine lv_aload_n (pc := 10) hx hb dJ7_fill_53178_10 rfl (lv_at hl 0 rfl) ?_
        refine lv_iload_n (pc := 11) hx hb dJ7_fill_53178_11 rfl (lv_at hl 2 rfl) ?_
        refine lv_iload_n (pc := 12) hx hb dJ7_fill_53178_12 rfl (lv_at hl 1 rfl) ?_
        obtain ⟨h_2, hq⟩ := pv_gd_some hq
        refine va_iast (pc := 13) (D := E.1) hx hb hK hP (hD w) hS 0 0 rfl rfl h_2 dJ7_fill_53178_13 (fun H locs hP _ hS => ?_)
        have hP : va_P E.1 vwCl (pv_wA8 E a0 (upd w x2.toNatClampNeg x1)) H := hP
        refine lv_iinc (pc := 14) (v := (x2 + 1)) (lv' := [(2, .int (x2 + 1)), (0, .ref a0), (1, .int x1), (3, .int x3)]) hx hb dJ7_fill_53178_14 hl (k := 2) rfl rfl (Nat.le_of_ble_eq_true rfl) rfl (fun ls hl => ?_)
        refine lv_goto (pc := 17) (tgt := 5) hx hb dJ7_fill_53178_17 (by decide) ?_
        exact ih x1 (x2 + 1) x3 (upd w x2.toNatClampNeg x1) H locs ls hP hS (lv_sub hl [1, 2, 0, 3] rfl) hq
  suffices M0 : ∀ (H : Heap) (locs : List Loc), va_P E.1 vwCl (pv_wA8 E a0 w0) H → va_S A s.heap H locs → W p l e r_J7_fill8 s m args below meth c H locs 0 0 (MQ below (pv_Rw E (pv_wA8 E a0 w0) sz (none) ((fun w : pv_AI => pv_wA8 E a0 w) F)) args s 0 0 A) (F0 m 0 ls []) from M0 s.heap [] hP hS
  intro H locs hP hS
  refine lv_iconst (pc := 0) (v := 0) hx hb dJ7_fill_53178_0 (by decide) ?_
  refine lv_istore_n (pc := 1) (lv' := [(2, .int 0), (0, .ref a0), (1, .int x1)]) hx hb dJ7_fill_53178_1 rfl hl (Nat.le_of_ble_eq_true rfl) rfl (fun ls hl => ?_)
  refine lv_aload_n (pc := 2) hx hb dJ7_fill_53178_2 rfl (lv_at hl 1 rfl) ?_
  refine va_alen (pc := 3) (D := E.1) (v := 8) hx hb hK hP 0 0 rfl rfl rfl dJ7_fill_53178_3 ?_
  refine lv_istore_n (pc := 4) (lv' := [(3, .int 8), (2, .int 0), (0, .ref a0), (1, .int x1)]) hx hb dJ7_fill_53178_4 rfl hl (Nat.le_of_ble_eq_true rfl) rfl (fun ls hl => ?_)
  exact L_5 300 x1 0 8 w0 H locs ls hP hS (lv_sub hl [2, 3, 1, 0] rfl) hq
theorem pv_fill8 (v : Int32) (f : Nat → Int32) : ∃ F, m_J7_fill8 v f = some F ∧ ∀ j, j < 8 → F j = v := by
  have key : ∀ (k i n : Nat) (f : Nat → Int32), i + k = 8 → k < n → (∀ j, j < i → f j = v) → ∃ F, m_J7_fill8_5 n v (nI i) (nI 8) f = some F ∧ ∀ j, j < 8 → F j = v := by
    intro k
    induction k with
    | zero =>
      intro i n f hi hn hf
      obtain ⟨n, rfl⟩ : ∃ n', n = n' + 1 := ⟨n - 1, by omega⟩
      refine ⟨f, ?_, fun j hj => hf j (by omega)⟩
      show (if nI 8 ≤ nI i then some f else _) = some f
      rw [if_pos (nI_le (by omega) (by omega))]
    | succ k ih =>
      intro i n f hi hn hf
      obtain ⟨n, rfl⟩ : ∃ n', n = n' + 1 := ⟨n - 1, by omega⟩
      obtain ⟨F, h1, h2⟩ := ih (i + 1) n (upd f i v) (by omega) (by omega) (fun j hj => by
        by_cases hji : j = i
        · subst hji; exact pk_us
        · rw [pk_un hji]; exact hf j (by omega))
      refine ⟨F, ?_, h2⟩
      show (if nI 8 ≤ nI i then some f else pv_gd (nI i) 8 (m_J7_fill8_5 n v (nI i + 1) (nI 8) (upd f (nI i).toNatClampNeg v))) = some F
      rw [if_neg (nI_ge (by omega) (by omega)), nI_clamp (by omega), nI_1]
      unfold pv_gd
      rw [if_neg (nI_in (by omega) (by omega))]
      exact h1
  exact key 8 0 300 f (by omega) (by omega) (fun j hj => by omega)
def m_J7_fill2_5 : Nat → Int32 → Int32 → Int32 → pv_AI → Option (pv_AI)
  | 0 => fun _ _ _ _ => none
  | n + 1 => fun x1 x2 x3 w =>
    if x3 ≤ x2 then (some w) else (pv_gd x2 2 ((m_J7_fill2_5 n) x1 (x2 + 1) x3 (upd w x2.toNatClampNeg x1)))
def m_J7_fill2 (x1 : Int32) (w : pv_AI) : Option (pv_AI) :=
  m_J7_fill2_5 300 x1 0 2 w
abbrev r_J7_fill2 : Room := { frames := 0, cells := 0, slots := 0, locals := 0 }
set_option maxHeartbeats 4000000 in
set_option maxRecDepth 100000 in
theorem c_J7_fill2 (l : Launch) (E : pv_E) (a0 : Nat) (x1 : Int32) (w0 : pv_AI) (F : pv_AI) (hq : m_J7_fill2 x1 w0 = some F) : pv_RW l E yJ7_fill_53178 wsJ7_fill_53178 r_J7_fill2 (pv_wA2 E a0 w0) [.ref a0, .int x1] (none) (pv_wA2 E a0 F) := by
  intro sz
  refine pv_mk (by decide) rfl (Nat.le_of_ble_eq_true rfl) ?_
  intro p e s m args below meth c A hx hb hr hml hown hts hlk hAe hP hD0 hA hE hS ls hl
  have hown : s.vm.findClass RJ7 = some m.cls := hown
  have hK := hE.1
  have hD : ∀ w : pv_AI, va_D A (pv_wA2 E a0 w) := fun w => pv_Dm (ws := pv_wA2 E a0 w0) (ws' := pv_wA2 E a0 w) rfl hD0
  have hP : va_P E.1 vwCl (pv_wA2 E a0 w0) s.heap := hP
  have hl : lv_has ls 4 [(0, .ref a0), (1, .int x1)] := hl
  have L_5 : ∀ n : Nat, ∀ (x1 : Int32) (x2 : Int32) (x3 : Int32) (w : pv_AI) (H : Heap) (locs : List Loc) (ls : Array Slot), va_P E.1 vwCl (pv_wA2 E a0 w) H → va_S A s.heap H locs → lv_has ls 4 [(0, .ref a0), (1, .int x1), (2, .int x2), (3, .int x3)] → m_J7_fill2_5 n x1 x2 x3 w = some F → W p l e r_J7_fill2 s m args below meth c H locs 0 0 (MQ below (pv_Rw E (pv_wA2 E a0 w0) sz (none) ((fun w : pv_AI => pv_wA2 E a0 w) F)) args s 0 0 A) (F0 m 5 ls []) := by
    intro n
    induction n with
    | zero =>
      intro x1 x2 x3 w H locs ls hP hS hl hq
      exact (pv_no hq).elim
    | succ n ih =>
      intro x1 x2 x3 w H locs ls hP hS hl hq
      refine lv_iload_n (pc := 5) hx hb dJ7_fill_53178_5 rfl (lv_at hl 2 rfl) ?_
      refine lv_iload_n (pc := 6) hx hb dJ7_fill_53178_6 rfl (lv_at hl 3 rfl) ?_
      refine lv_icmp_ge (pc := 7) (tgt := 20) hx hb dJ7_fill_53178_7 (by decide) (fun c_1 => ?_) (fun c_1 => ?_)
      · have hq := pv_pos c_1 hq
        exact pv_rvRW (w := fun w : pv_AI => pv_wA2 E a0 w) hx hb hr hlk hAe hS hP (Option.some.inj hq) dJ7_fill_53178_20
      · have hq := pv_neg c_1 hq
        refine lv_aload_n (pc := 10) hx hb dJ7_fill_53178_10 rfl (lv_at hl 0 rfl) ?_
        refine lv_iload_n (pc := 11) hx hb dJ7_fill_53178_11 rfl (lv_at hl 2 rfl) ?_
        refine lv_iload_n (pc := 12) hx hb dJ7_fill_53178_12 rfl (lv_at hl 1 rfl) ?_
        obtain ⟨h_2, hq⟩ := pv_gd_some hq
        refine va_iast (pc := 13) (D := E.1) hx hb hK hP (hD w) hS 0 0 rfl rfl h_2 dJ7_fill_53178_13 (fun H locs hP _ hS => ?_)
        have hP : va_P E.1 vwCl (pv_wA2 E a0 (upd w x2.toNatClampNeg x1)) H := hP
        refine lv_iinc (pc := 14) (v := (x2 + 1)) (lv' := [(2, .int (x2 + 1)), (0, .ref a0), (1, .int x1), (3, .int x3)]) hx hb dJ7_fill_53178_14 hl (k := 2) rfl rfl (Nat.le_of_ble_eq_true rfl) rfl (fun ls hl => ?_)
        refine lv_goto (pc := 17) (tgt := 5) hx hb dJ7_fill_53178_17 (by decide) ?_
        exact ih x1 (x2 + 1) x3 (upd w x2.toNatClampNeg x1) H locs ls hP hS (lv_sub hl [1, 2, 0, 3] rfl) hq
  suffices M0 : ∀ (H : Heap) (locs : List Loc), va_P E.1 vwCl (pv_wA2 E a0 w0) H → va_S A s.heap H locs → W p l e r_J7_fill2 s m args below meth c H locs 0 0 (MQ below (pv_Rw E (pv_wA2 E a0 w0) sz (none) ((fun w : pv_AI => pv_wA2 E a0 w) F)) args s 0 0 A) (F0 m 0 ls []) from M0 s.heap [] hP hS
  intro H locs hP hS
  refine lv_iconst (pc := 0) (v := 0) hx hb dJ7_fill_53178_0 (by decide) ?_
  refine lv_istore_n (pc := 1) (lv' := [(2, .int 0), (0, .ref a0), (1, .int x1)]) hx hb dJ7_fill_53178_1 rfl hl (Nat.le_of_ble_eq_true rfl) rfl (fun ls hl => ?_)
  refine lv_aload_n (pc := 2) hx hb dJ7_fill_53178_2 rfl (lv_at hl 1 rfl) ?_
  refine va_alen (pc := 3) (D := E.1) (v := 2) hx hb hK hP 0 0 rfl rfl rfl dJ7_fill_53178_3 ?_
  refine lv_istore_n (pc := 4) (lv' := [(3, .int 2), (2, .int 0), (0, .ref a0), (1, .int x1)]) hx hb dJ7_fill_53178_4 rfl hl (Nat.le_of_ble_eq_true rfl) rfl (fun ls hl => ?_)
  exact L_5 300 x1 0 2 w0 H locs ls hP hS (lv_sub hl [2, 3, 1, 0] rfl) hq
theorem pv_fill2 (v : Int32) (f : Nat → Int32) : ∃ F, m_J7_fill2 v f = some F ∧ ∀ j, j < 2 → F j = v := by
  have key : ∀ (k i n : Nat) (f : Nat → Int32), i + k = 2 → k < n → (∀ j, j < i → f j = v) → ∃ F, m_J7_fill2_5 n v (nI i) (nI 2) f = some F ∧ ∀ j, j < 2 → F j = v := by
    intro k
    induction k with
    | zero =>
      intro i n f hi hn hf
      obtain ⟨n, rfl⟩ : ∃ n', n = n' + 1 := ⟨n - 1, by omega⟩
      refine ⟨f, ?_, fun j hj => hf j (by omega)⟩
      show (if nI 2 ≤ nI i then some f else _) = some f
      rw [if_pos (nI_le (by omega) (by omega))]
    | succ k ih =>
      intro i n f hi hn hf
      obtain ⟨n, rfl⟩ : ∃ n', n = n' + 1 := ⟨n - 1, by omega⟩
      obtain ⟨F, h1, h2⟩ := ih (i + 1) n (upd f i v) (by omega) (by omega) (fun j hj => by
        by_cases hji : j = i
        · subst hji; exact pk_us
        · rw [pk_un hji]; exact hf j (by omega))
      refine ⟨F, ?_, h2⟩
      show (if nI 2 ≤ nI i then some f else pv_gd (nI i) 2 (m_J7_fill2_5 n v (nI i + 1) (nI 2) (upd f (nI i).toNatClampNeg v))) = some F
      rw [if_neg (nI_ge (by omega) (by omega)), nI_clamp (by omega), nI_1]
      unfold pv_gd
      rw [if_neg (nI_in (by omega) (by omega))]
      exact h1
  exact key 2 0 300 f (by omega) (by omega) (fun j hj => by omega)
/-- how tables, games .. are at first -/
def pv_iT (t : pv_TT) : Prop := t.1 = 0 ∧ t.2.1 = 5 ∧ t.2.2.1 = 0 ∧ (∀ j, j < 8 → t.2.2.2.1 j = -1) ∧ (∀ j, j < 2 → t.2.2.2.2.1 j = 50) ∧ (∀ j, j < 2 → t.2.2.2.2.2.1 j = -1) ∧ (∀ j, j < 8 → t.2.2.2.2.2.2.1 j = 0) ∧ (∀ j, j < 8 → t.2.2.2.2.2.2.2 j = 0)
def pv_iP (t : pv_PT) : Prop := t.2.1 = 0 ∧ ∀ j, j < 120 → t.1 j = 0
def pv_iS (t : pv_ST) : Prop := t.1 = 0 ∧ t.2.1 = 0 ∧ ∀ j, j < 40 → t.2.2 j = 0
abbrev r_X4_init : Room := { frames := 1, cells := 5, slots := 28, locals := 32 }
set_option maxHeartbeats 4000000 in
set_option maxRecDepth 100000 in
theorem c_X4_init (l : Launch) (E : pv_E) (a0 sz : Nat) : Met l yX4_init wsX4_init r_X4_init (fun v U => pv_Pre E [(a0, .inr (2, [.int 0, .int 0, .int 0, .null, .null, .null, .null, .null]))] sz [.ref a0] v U ∧ True) (pv_Rc E [(a0, .inr (2, [.int 0, .int 0, .int 0, .null, .null, .null, .null, .null]))] sz (fun w1 => ∃ (a1 a2 a3 a4 a5 : Nat) (t : pv_TT), pv_iT t ∧ w1 = pv_wT E a0 a1 a2 a3 a4 a5 t)) 5 28 (va_A [(a0, .inr (2, [.int 0, .int 0, .int 0, .null, .null, .null, .null, .null]))] sz) := by
  refine pv_mkC (X := fun U => True) (by decide) rfl rfl (Nat.le_of_ble_eq_true rfl) ?_
  intro p e s m args below meth c A hx hb hr hml hown hts hlk hin hAe hP hD hA hE hS hX ls hl
  have hown : s.vm.findClass RX4 = some m.cls := hown
  have hK := hE.1
  have oi_l : (Cond.methodLink RX4 3 objectInit).before args s = true := hts _ (by decide +kernel)
  have oi_i : (Cond.instanceMethod objectInit).before args s = true := hts _ (by decide +kernel)
  have oi_c : (Cond.code objectInit ⟨#[0xb1]⟩ 1 none).before args s = true := hts _ (by decide +kernel)
  have fl_9 : (Cond.fieldLink RX4 9 "ProvinceCards$Table" "month" "I").before args s = true := hts _ (by decide +kernel)
  have i_RX4 : ∀ w ∈ wsX40, w ∈ wsX4_init := by decide +kernel
  have fl_15 : (Cond.fieldLink RX4 15 "ProvinceCards$Table" "mixing" "I").before args s = true := hts _ (by decide +kernel)
  have fl_18 : (Cond.fieldLink RX4 18 "ProvinceCards$Table" "envoys" "I").before args s = true := hts _ (by decide +kernel)
  have ar_int : (Cond.arrayClass .int).before args s = true := hts _ (by decide +kernel)
  have fl_21 : (Cond.fieldLink RX4 21 "ProvinceCards$Table" "owner" "[I").before args s = true := hts _ (by decide +kernel)
  have fl_25 : (Cond.fieldLink RX4 25 "ProvinceCards$Table" "purse" "[I").before args s = true := hts _ (by decide +kernel)
  have fl_28 : (Cond.fieldLink RX4 28 "ProvinceCards$Table" "sent" "[I").before args s = true := hts _ (by decide +kernel)
  have fl_31 : (Cond.fieldLink RX4 31 "ProvinceCards$Table" "kinds" "[I").before args s = true := hts _ (by decide +kernel)
  have fl_34 : (Cond.fieldLink RX4 34 "ProvinceCards$Table" "wins" "[I").before args s = true := hts _ (by decide +kernel)
  have hl : lv_has ls 1 [(0, .ref a0)] := hl
  refine lv_aload_n (pc := 0) hx hb dX4_init_0 rfl (lv_at hl 0 rfl) ?_
  refine W.objInit hx hb hown oi_l oi_i oi_c rfl (by rw [hml]; exact hl.1) rfl dX4_init_1 (Nat.le_of_ble_eq_true rfl) (Nat.le_of_ble_eq_true rfl) ?_
  refine W.eq (g2 := F0 m 4 ls []) rfl ?_
  refine lv_aload_n (pc := 4) hx hb dX4_init_4 rfl (lv_at hl 0 rfl) ?_
  refine lv_iconst (pc := 5) (v := 0) hx hb dX4_init_5 (by decide) ?_
  refine va_put (pc := 6) (D := E.1) (ci := 2) (v := .int 0) (ty := .int) (C := RX4) (T := TX4) (N := 8) hx hb hts i_RX4 tyX4 tyX4_ok nmX4 hown hK hP hD hS 0 rfl rfl 0 (Nat.le_of_ble_eq_true rfl) fl_9 (fun _ h9 => h9) rfl (tyX4_ok 0 (Nat.le_of_ble_eq_true rfl)) rfl rfl (Nat.le_of_ble_eq_true rfl) dX4_init_6 (fun H locs hP hD hS => ?_)
  have hP : va_P E.1 vwCl [(a0, .inr (2, [.int 0, .int 0, .int 0, .null, .null, .null, .null, .null]))] H := hP
  have hD : va_D A [(a0, .inr (2, [.int 0, .int 0, .int 0, .null, .null, .null, .null, .null]))] := hD
  refine lv_aload_n (pc := 9) hx hb dX4_init_9 rfl (lv_at hl 0 rfl) ?_
  refine lv_iconst (pc := 10) (v := 5) hx hb dX4_init_10 (by decide) ?_
  refine va_put (pc := 11) (D := E.1) (ci := 2) (v := .int 5) (ty := .int) (C := RX4) (T := TX4) (N := 8) hx hb hts i_RX4 tyX4 tyX4_ok nmX4 hown hK hP hD hS 0 rfl rfl 1 (Nat.le_of_ble_eq_true rfl) fl_15 (fun _ h9 => h9) rfl (tyX4_ok 1 (Nat.le_of_ble_eq_true rfl)) rfl rfl (Nat.le_of_ble_eq_true rfl) dX4_init_11 (fun H locs hP hD hS => ?_)
  have hP : va_P E.1 vwCl [(a0, .inr (2, [.int 0, .int 5, .int 0, .null, .null, .null, .null, .null]))] H := hP
  have hD : va_D A [(a0, .inr (2, [.int 0, .int 5, .int 0, .null, .null, .null, .null, .null]))] := hD
  refine lv_aload_n (pc := 14) hx hb dX4_init_14 rfl (lv_at hl 0 rfl) ?_
  refine lv_iconst (pc := 15) (v := 0) hx hb dX4_init_15 (by decide) ?_
  refine va_put (pc := 16) (D := E.1) (ci := 2) (v := .int 0) (ty := .int) (C := RX4) (T := TX4) (N := 8) hx hb hts i_RX4 tyX4 tyX4_ok nmX4 hown hK hP hD hS 0 rfl rfl 2 (Nat.le_of_ble_eq_true rfl) fl_18 (fun _ h9 => h9) rfl (tyX4_ok 2 (Nat.le_of_ble_eq_true rfl)) rfl rfl (Nat.le_of_ble_eq_true rfl) dX4_init_16 (fun H locs hP hD hS => ?_)
  have hP : va_P E.1 vwCl [(a0, .inr (2, [.int 0, .int 5, .int 0, .null, .null, .null, .null, .null]))] H := hP
  have hD : va_D A [(a0, .inr (2, [.int 0, .int 5, .int 0, .null, .null, .null, .null, .null]))] := hD
  refine lv_aload_n (pc := 19) hx hb dX4_init_19 rfl (lv_at hl 0 rfl) ?_
  refine lv_bipush (pc := 20) (v := 8) hx hb dX4_init_20 (by decide) ?_
  refine pv_newa (pc := 22) (atype := .int) hx hb ar_int rfl hK hP hD hS hA 0 rfl (pv_raI hK) (a0 := (8, .inl (fun _ => 0))) (fun _ => rfl) (by decide) (by decide : (8 : Int32).toNatClampNeg = 8) (Nat.le_of_ble_eq_true rfl) (Nat.le_of_ble_eq_true rfl) (Nat.le_of_ble_eq_true rfl) dX4_init_22 (fun q1 H hP hD hS => ?_)
  have hP : va_P E.1 vwCl [(a0, .inr (2, [.int 0, .int 5, .int 0, .null, .null, .null, .null, .null])), (q1, .inl (pv_I E, 8, .inl (fun _ => 0)))] H := hP
  have hD : va_D A [(a0, .inr (2, [.int 0, .int 5, .int 0, .null, .null, .null, .null, .null])), (q1, .inl (pv_I E, 8, .inl (fun _ => 0)))] := hD
  refine va_putF (pc := 24) (D := E.1) (ci := 2) (v := .ref q1) (ty := .array .int) (C := RX4) (T := TX4) (N := 8) hx hb hts i_RX4 tyX4 tyX4_ok nmX4 hown hK hP hD hS 0 rfl rfl 3 (Nat.le_of_ble_eq_true rfl) fl_21 (fun _ h9 => h9) rfl hin rfl (tyX4_ok 3 (Nat.le_of_ble_eq_true rfl)) rfl rfl (Nat.le_of_ble_eq_true rfl) dX4_init_24 (fun H locs hP hD hS => ?_)
  have hP : va_P E.1 vwCl [(a0, .inr (2, [.int 0, .int 5, .int 0, .ref q1, .null, .null, .null, .null])), (q1, .inl (pv_I E, 8, .inl (fun _ => 0)))] H := hP
  have hD : va_D A [(a0, .inr (2, [.int 0, .int 5, .int 0, .ref q1, .null, .null, .null, .null])), (q1, .inl (pv_I E, 8, .inl (fun _ => 0)))] := hD
  refine lv_aload_n (pc := 27) hx hb dX4_init_27 rfl (lv_at hl 0 rfl) ?_
  refine lv_iconst (pc := 28) (v := 2) hx hb dX4_init_28 (by decide) ?_
  refine pv_newa (pc := 29) (atype := .int) hx hb ar_int rfl hK hP hD hS hA 0 rfl (pv_raI hK) (a0 := (2, .inl (fun _ => 0))) (fun _ => rfl) (by decide) (by decide : (2 : Int32).toNatClampNeg = 2) (Nat.le_of_ble_eq_true rfl) (Nat.le_of_ble_eq_true rfl) (Nat.le_of_ble_eq_true rfl) dX4_init_29 (fun q2 H hP hD hS => ?_)
  have hP : va_P E.1 vwCl [(a0, .inr (2, [.int 0, .int 5, .int 0, .ref q1, .null, .null, .null, .null])), (q1, .inl (pv_I E, 8, .inl (fun _ => 0))), (q2, .inl (pv_I E, 2, .inl (fun _ => 0)))] H := hP
  have hD : va_D A [(a0, .inr (2, [.int 0, .int 5, .int 0, .ref q1, .null, .null, .null, .null])), (q1, .inl (pv_I E, 8, .inl (fun _ => 0))), (q2, .inl (pv_I E, 2, .inl (fun _ => 0)))] := hD
  refine va_putF (pc := 31) (D := E.1) (ci := 2) (v := .ref q2) (ty := .array .int) (C := RX4) (T := TX4) (N := 8) hx hb hts i_RX4 tyX4 tyX4_ok nmX4 hown hK hP hD hS 0 rfl rfl 4 (Nat.le_of_ble_eq_true rfl) fl_25 (fun _ h9 => h9) rfl hin rfl (tyX4_ok 4 (Nat.le_of_ble_eq_true rfl)) rfl rfl (Nat.le_of_ble_eq_true rfl) dX4_init_31 (fun H locs hP hD hS => ?_)
  have hP : va_P E.1 vwCl [(a0, .inr (2, [.int 0, .int 5, .int 0, .ref q1, .ref q2, .null, .null, .null])), (q1, .inl (pv_I E, 8, .inl (fun _ => 0))), (q2, .inl (pv_I E, 2, .inl (fun _ => 0)))] H := hP
  have hD : va_D A [(a0, .inr (2, [.int 0, .int 5, .int 0, .ref q1, .ref q2, .null, .null, .null])), (q1, .inl (pv_I E, 8, .inl (fun _ => 0))), (q2, .inl (pv_I E, 2, .inl (fun _ => 0)))] := hD
  refine lv_aload_n (pc := 34) hx hb dX4_init_34 rfl (lv_at hl 0 rfl) ?_
  refine lv_iconst (pc := 35) (v := 2) hx hb dX4_init_35 (by decide) ?_
  refine pv_newa (pc := 36) (atype := .int) hx hb ar_int rfl hK hP hD hS hA 0 rfl (pv_raI hK) (a0 := (2, .inl (fun _ => 0))) (fun _ => rfl) (by decide) (by decide : (2 : Int32).toNatClampNeg = 2) (Nat.le_of_ble_eq_true rfl) (Nat.le_of_ble_eq_true rfl) (Nat.le_of_ble_eq_true rfl) dX4_init_36 (fun q3 H hP hD hS => ?_)
  have hP : va_P E.1 vwCl [(a0, .inr (2, [.int 0, .int 5, .int 0, .ref q1, .ref q2, .null, .null, .null])), (q1, .inl (pv_I E, 8, .inl (fun _ => 0))), (q2, .inl (pv_I E, 2, .inl (fun _ => 0))), (q3, .inl (pv_I E, 2, .inl (fun _ => 0)))] H := hP
  have hD : va_D A [(a0, .inr (2, [.int 0, .int 5, .int 0, .ref q1, .ref q2, .null, .null, .null])), (q1, .inl (pv_I E, 8, .inl (fun _ => 0))), (q2, .inl (pv_I E, 2, .inl (fun _ => 0))), (q3, .inl (pv_I E, 2, .inl (fun _ => 0)))] := hD
  refine va_putF (pc := 38) (D := E.1) (ci := 2) (v := .ref q3) (ty := .array .int) (C := RX4) (T := TX4) (N := 8) hx hb hts i_RX4 tyX4 tyX4_ok nmX4 hown hK hP hD hS 0 rfl rfl 5 (Nat.le_of_ble_eq_true rfl) fl_28 (fun _ h9 => h9) rfl hin rfl (tyX4_ok 5 (Nat.le_of_ble_eq_true rfl)) rfl rfl (Nat.le_of_ble_eq_true rfl) dX4_init_38 (fun H locs hP hD hS => ?_)
  have hP : va_P E.1 vwCl [(a0, .inr (2, [.int 0, .int 5, .int 0, .ref q1, .ref q2, .ref q3, .null, .null])), (q1, .inl (pv_I E, 8, .inl (fun _ => 0))), (q2, .inl (pv_I E, 2, .inl (fun _ => 0))), (q3, .inl (pv_I E, 2, .inl (fun _ => 0)))] H := hP
  have hD : va_D A [(a0, .inr (2, [.int 0, .int 5, .int 0, .ref q1, .ref q2, .ref q3, .null, .null])), (q1, .inl (pv_I E, 8, .inl (fun _ => 0))), (q2, .inl (pv_I E, 2, .inl (fun _ => 0))), (q3, .inl (pv_I E, 2, .inl (fun _ => 0)))] := hD
  refine lv_aload_n (pc := 41) hx hb dX4_init_41 rfl (lv_at hl 0 rfl) ?_
  refine lv_bipush (pc := 42) (v := 8) hx hb dX4_init_42 (by decide) ?_
  refine pv_newa (pc := 44) (atype := .int) hx hb ar_int rfl hK hP hD hS hA 0 rfl (pv_raI hK) (a0 := (8, .inl (fun _ => 0))) (fun _ => rfl) (by decide) (by decide : (8 : Int32).toNatClampNeg = 8) (Nat.le_of_ble_eq_true rfl) (Nat.le_of_ble_eq_true rfl) (Nat.le_of_ble_eq_true rfl) dX4_init_44 (fun q4 H hP hD hS => ?_)
  have hP : va_P E.1 vwCl [(a0, .inr (2, [.int 0, .int 5, .int 0, .ref q1, .ref q2, .ref q3, .null, .null])), (q1, .inl (pv_I E, 8, .inl (fun _ => 0))), (q2, .inl (pv_I E, 2, .inl (fun _ => 0))), (q3, .inl (pv_I E, 2, .inl (fun _ => 0))), (q4, .inl (pv_I E, 8, .inl (fun _ => 0)))] H := hP
  have hD : va_D A [(a0, .inr (2, [.int 0, .int 5, .int 0, .ref q1, .ref q2, .ref q3, .null, .null])), (q1, .inl (pv_I E, 8, .inl (fun _ => 0))), (q2, .inl (pv_I E, 2, .inl (fun _ => 0))), (q3, .inl (pv_I E, 2, .inl (fun _ => 0))), (q4, .inl (pv_I E, 8, .inl (fun _ => 0)))] := hD
  refine va_putF (pc := 46) (D := E.1) (ci := 2) (v := .ref q4) (ty := .array .int) (C := RX4) (T := TX4) (N := 8) hx hb hts i_RX4 tyX4 tyX4_ok nmX4 hown hK hP hD hS 0 rfl rfl 6 (Nat.le_of_ble_eq_true rfl) fl_31 (fun _ h9 => h9) rfl hin rfl (tyX4_ok 6 (Nat.le_of_ble_eq_true rfl)) rfl rfl (Nat.le_of_ble_eq_true rfl) dX4_init_46 (fun H locs hP hD hS => ?_)
  have hP : va_P E.1 vwCl [(a0, .inr (2, [.int 0, .int 5, .int 0, .ref q1, .ref q2, .ref q3, .ref q4, .null])), (q1, .inl (pv_I E, 8, .inl (fun _ => 0))), (q2, .inl (pv_I E, 2, .inl (fun _ => 0))), (q3, .inl (pv_I E, 2, .inl (fun _ => 0))), (q4, .inl (pv_I E, 8, .inl (fun _ => 0)))] H := hP
  have hD : va_D A [(a0, .inr (2, [.int 0, .int 5, .int 0, .ref q1, .ref q2, .ref q3, .ref q4, .null])), (q1, .inl (pv_I E, 8, .inl (fun _ => 0))), (q2, .inl (pv_I E, 2, .inl (fun _ => 0))), (q3, .inl (pv_I E, 2, .inl (fun _ => 0))), (q4, .inl (pv_I E, 8, .inl (fun _ => 0)))] := hD
  refine lv_aload_n (pc := 49) hx hb dX4_init_49 rfl (lv_at hl 0 rfl) ?_
  refine lv_bipush (pc := 50) (v := 8) hx hb dX4_init_50 (by decide) ?_
  refine pv_newa (pc := 52) (atype := .int) hx hb ar_int rfl hK hP hD hS hA 0 rfl (pv_raI hK) (a0 := (8, .inl (fun _ => 0))) (fun _ => rfl) (by decide) (by decide : (8 : Int32).toNatClampNeg = 8) (Nat.le_of_ble_eq_true rfl) (Nat.le_of_ble_eq_true rfl) (Nat.le_of_ble_eq_true rfl) dX4_init_52 (fun q5 H hP hD hS => ?_)
  have hP : va_P E.1 vwCl [(a0, .inr (2, [.int 0, .int 5, .int 0, .ref q1, .ref q2, .ref q3, .ref q4, .null])), (q1, .inl (pv_I E, 8, .inl (fun _ => 0))), (q2, .inl (pv_I E, 2, .inl (fun _ => 0))), (q3, .inl (pv_I E, 2, .inl (fun _ => 0))), (q4, .inl (pv_I E, 8, .inl (fun _ => 0))), (q5, .inl (pv_I E, 8, .inl (fun _ => 0)))] H := hP
  have hD : va_D A [(a0, .inr (2, [.int 0, .int 5, .int 0, .ref q1, .ref q2, .ref q3, .ref q4, .null])), (q1, .inl (pv_I E, 8, .inl (fun _ => 0))), (q2, .inl (pv_I E, 2, .inl (fun _ => 0))), (q3, .inl (pv_I E, 2, .inl (fun _ => 0))), (q4, .inl (pv_I E, 8, .inl (fun _ => 0))), (q5, .inl (pv_I E, 8, .inl (fun _ => 0)))] := hD
  refine va_putF (pc := 54) (D := E.1) (ci := 2) (v := .ref q5) (ty := .array .int) (C := RX4) (T := TX4) (N := 8) hx hb hts i_RX4 tyX4 tyX4_ok nmX4 hown hK hP hD hS 0 rfl rfl 7 (Nat.le_of_ble_eq_true rfl) fl_34 (fun _ h9 => h9) rfl hin rfl (tyX4_ok 7 (Nat.le_of_ble_eq_true rfl)) rfl rfl (Nat.le_of_ble_eq_true rfl) dX4_init_54 (fun H locs hP hD hS => ?_)
  have hP : va_P E.1 vwCl [(a0, .inr (2, [.int 0, .int 5, .int 0, .ref q1, .ref q2, .ref q3, .ref q4, .ref q5])), (q1, .inl (pv_I E, 8, .inl (fun _ => 0))), (q2, .inl (pv_I E, 2, .inl (fun _ => 0))), (q3, .inl (pv_I E, 2, .inl (fun _ => 0))), (q4, .inl (pv_I E, 8, .inl (fun _ => 0))), (q5, .inl (pv_I E, 8, .inl (fun _ => 0)))] H := hP
  have hD : va_D A [(a0, .inr (2, [.int 0, .int 5, .int 0, .ref q1, .ref q2, .ref q3, .ref q4, .ref q5])), (q1, .inl (pv_I E, 8, .inl (fun _ => 0))), (q2, .inl (pv_I E, 2, .inl (fun _ => 0))), (q3, .inl (pv_I E, 2, .inl (fun _ => 0))), (q4, .inl (pv_I E, 8, .inl (fun _ => 0))), (q5, .inl (pv_I E, 8, .inl (fun _ => 0)))] := hD
  refine lv_aload_n (pc := 57) hx hb dX4_init_57 rfl (lv_at hl 0 rfl) ?_
  refine va_get (pc := 58) (D := E.1) (ci := 2) (v := .ref q1) (C := RX4) (T := TX4) (N := 8) hx hb hts i_RX4 hown hK hP 0 rfl rfl 3 (Nat.le_of_ble_eq_true rfl) fl_21 (fun _ h9 => h9) rfl dX4_init_58 ?_
  refine lv_iconst (pc := 61) (v := (-1)) hx hb dX4_init_61 (by decide) ?_
  obtain ⟨F1, eF1, hF1⟩ := pv_fill8 (-1) (fun _ => 0)
  refine pv_sRW (pc := 62) (rest := []) (st1 := []) (ws := [(a0, .inr (2, [.int 0, .int 5, .int 0, .ref q1, .ref q2, .ref q3, .ref q4, .ref q5])), (q1, .inl (pv_I E, 8, .inl (fun _ => 0))), (q2, .inl (pv_I E, 2, .inl (fun _ => 0))), (q3, .inl (pv_I E, 2, .inl (fun _ => 0))), (q4, .inl (pv_I E, 8, .inl (fun _ => 0))), (q5, .inl (pv_I E, 8, .inl (fun _ => 0)))]) (ws' := [(a0, .inr (2, [.int 0, .int 5, .int 0, .ref q1, .ref q2, .ref q3, .ref q4, .ref q5])), (q1, .inl (pv_I E, 8, .inl F1)), (q2, .inl (pv_I E, 2, .inl (fun _ => 0))), (q3, .inl (pv_I E, 2, .inl (fun _ => 0))), (q4, .inl (pv_I E, 8, .inl (fun _ => 0))), (q5, .inl (pv_I E, 8, .inl (fun _ => 0)))]) [.ref q1, .int (-1)] ⟨hx, hb, hml, hown, hts⟩ hE hA hS hP hD (c_J7_fill8 l E q1 (-1) (fun _ => 0) F1 eF1) (va_cwS 2 hts gX4_init_J7_fill_53178 rfl rfl rfl (by decide +kernel) ⟨(Nat.le_of_ble_eq_true rfl), (Nat.le_of_ble_eq_true rfl)⟩) [1] rfl rfl rfl rfl rfl hl.1 rfl rfl (Nat.le_of_ble_eq_true rfl) dX4_init_62 ⟨(Nat.le_of_ble_eq_true rfl), (Nat.le_of_ble_eq_true rfl)⟩ (fun H locs hP hS => ?_)
  have hD : va_D A [(a0, .inr (2, [.int 0, .int 5, .int 0, .ref q1, .ref q2, .ref q3, .ref q4, .ref q5])), (q1, .inl (pv_I E, 8, .inl F1)), (q2, .inl (pv_I E, 2, .inl (fun _ => 0))), (q3, .inl (pv_I E, 2, .inl (fun _ => 0))), (q4, .inl (pv_I E, 8, .inl (fun _ => 0))), (q5, .inl (pv_I E, 8, .inl (fun _ => 0)))] := pv_Dm (ws := [(a0, .inr (2, [.int 0, .int 5, .int 0, .ref q1, .ref q2, .ref q3, .ref q4, .ref q5])), (q1, .inl (pv_I E, 8, .inl (fun _ => 0))), (q2, .inl (pv_I E, 2, .inl (fun _ => 0))), (q3, .inl (pv_I E, 2, .inl (fun _ => 0))), (q4, .inl (pv_I E, 8, .inl (fun _ => 0))), (q5, .inl (pv_I E, 8, .inl (fun _ => 0)))]) rfl hD
  refine lv_aload_n (pc := 65) hx hb dX4_init_65 rfl (lv_at hl 0 rfl) ?_
  refine va_get (pc := 66) (D := E.1) (ci := 2) (v := .ref q2) (C := RX4) (T := TX4) (N := 8) hx hb hts i_RX4 hown hK hP 0 rfl rfl 4 (Nat.le_of_ble_eq_true rfl) fl_25 (fun _ h9 => h9) rfl dX4_init_66 ?_
  refine lv_bipush (pc := 69) (v := 50) hx hb dX4_init_69 (by decide) ?_
  obtain ⟨F2, eF2, hF2⟩ := pv_fill2 50 (fun _ => 0)
  refine pv_sRW (pc := 71) (rest := []) (st1 := []) (ws := [(a0, .inr (2, [.int 0, .int 5, .int 0, .ref q1, .ref q2, .ref q3, .ref q4, .ref q5])), (q1, .inl (pv_I E, 8, .inl F1)), (q2, .inl (pv_I E, 2, .inl (fun _ => 0))), (q3, .inl (pv_I E, 2, .inl (fun _ => 0))), (q4, .inl (pv_I E, 8, .inl (fun _ => 0))), (q5, .inl (pv_I E, 8, .inl (fun _ => 0)))]) (ws' := [(a0, .inr (2, [.int 0, .int 5, .int 0, .ref q1, .ref q2, .ref q3, .ref q4, .ref q5])), (q1, .inl (pv_I E, 8, .inl F1)), (q2, .inl (pv_I E, 2, .inl F2)), (q3, .inl (pv_I E, 2, .inl (fun _ => 0))), (q4, .inl (pv_I E, 8, .inl (fun _ => 0))), (q5, .inl (pv_I E, 8, .inl (fun _ => 0)))]) [.ref q2, .int 50] ⟨hx, hb, hml, hown, hts⟩ hE hA hS hP hD (c_J7_fill2 l E q2 50 (fun _ => 0) F2 eF2) (va_cwS 2 hts gX4_init_J7_fill_53178 rfl rfl rfl (by decide +kernel) ⟨(Nat.le_of_ble_eq_true rfl), (Nat.le_of_ble_eq_true rfl)⟩) [2] rfl rfl rfl rfl rfl hl.1 rfl rfl (Nat.le_of_ble_eq_true rfl) dX4_init_71 ⟨(Nat.le_of_ble_eq_true rfl), (Nat.le_of_ble_eq_true rfl)⟩ (fun H locs hP hS => ?_)
  have hD : va_D A [(a0, .inr (2, [.int 0, .int 5, .int 0, .ref q1, .ref q2, .ref q3, .ref q4, .ref q5])), (q1, .inl (pv_I E, 8, .inl F1)), (q2, .inl (pv_I E, 2, .inl F2)), (q3, .inl (pv_I E, 2, .inl (fun _ => 0))), (q4, .inl (pv_I E, 8, .inl (fun _ => 0))), (q5, .inl (pv_I E, 8, .inl (fun _ => 0)))] := pv_Dm (ws := [(a0, .inr (2, [.int 0, .int 5, .int 0, .ref q1, .ref q2, .ref q3, .ref q4, .ref q5])), (q1, .inl (pv_I E, 8, .inl F1)), (q2, .inl (pv_I E, 2, .inl (fun _ => 0))), (q3, .inl (pv_I E, 2, .inl (fun _ => 0))), (q4, .inl (pv_I E, 8, .inl (fun _ => 0))), (q5, .inl (pv_I E, 8, .inl (fun _ => 0)))]) rfl hD
  refine lv_aload_n (pc := 74) hx hb dX4_init_74 rfl (lv_at hl 0 rfl) ?_
  refine va_get (pc := 75) (D := E.1) (ci := 2) (v := .ref q3) (C := RX4) (T := TX4) (N := 8) hx hb hts i_RX4 hown hK hP 0 rfl rfl 5 (Nat.le_of_ble_eq_true rfl) fl_28 (fun _ h9 => h9) rfl dX4_init_75 ?_
  refine lv_iconst (pc := 78) (v := (-1)) hx hb dX4_init_78 (by decide) ?_
  obtain ⟨F3, eF3, hF3⟩ := pv_fill2 (-1) (fun _ => 0)
  refine pv_sRW (pc := 79) (rest := []) (st1 := []) (ws := [(a0, .inr (2, [.int 0, .int 5, .int 0, .ref q1, .ref q2, .ref q3, .ref q4, .ref q5])), (q1, .inl (pv_I E, 8, .inl F1)), (q2, .inl (pv_I E, 2, .inl F2)), (q3, .inl (pv_I E, 2, .inl (fun _ => 0))), (q4, .inl (pv_I E, 8, .inl (fun _ => 0))), (q5, .inl (pv_I E, 8, .inl (fun _ => 0)))]) (ws' := [(a0, .inr (2, [.int 0, .int 5, .int 0, .ref q1, .ref q2, .ref q3, .ref q4, .ref q5])), (q1, .inl (pv_I E, 8, .inl F1)), (q2, .inl (pv_I E, 2, .inl F2)), (q3, .inl (pv_I E, 2, .inl F3)), (q4, .inl (pv_I E, 8, .inl (fun _ => 0))), (q5, .inl (pv_I E, 8, .inl (fun _ => 0)))]) [.ref q3, .int (-1)] ⟨hx, hb, hml, hown, hts⟩ hE hA hS hP hD (c_J7_fill2 l E q3 (-1) (fun _ => 0) F3 eF3) (va_cwS 2 hts gX4_init_J7_fill_53178 rfl rfl rfl (by decide +kernel) ⟨(Nat.le_of_ble_eq_true rfl), (Nat.le_of_ble_eq_true rfl)⟩) [3] rfl rfl rfl rfl rfl hl.1 rfl rfl (Nat.le_of_ble_eq_true rfl) dX4_init_79 ⟨(Nat.le_of_ble_eq_true rfl), (Nat.le_of_ble_eq_true rfl)⟩ (fun H locs hP hS => ?_)
  have hD : va_D A [(a0, .inr (2, [.int 0, .int 5, .int 0, .ref q1, .ref q2, .ref q3, .ref q4, .ref q5])), (q1, .inl (pv_I E, 8, .inl F1)), (q2, .inl (pv_I E, 2, .inl F2)), (q3, .inl (pv_I E, 2, .inl F3)), (q4, .inl (pv_I E, 8, .inl (fun _ => 0))), (q5, .inl (pv_I E, 8, .inl (fun _ => 0)))] := pv_Dm (ws := [(a0, .inr (2, [.int 0, .int 5, .int 0, .ref q1, .ref q2, .ref q3, .ref q4, .ref q5])), (q1, .inl (pv_I E, 8, .inl F1)), (q2, .inl (pv_I E, 2, .inl F2)), (q3, .inl (pv_I E, 2, .inl (fun _ => 0))), (q4, .inl (pv_I E, 8, .inl (fun _ => 0))), (q5, .inl (pv_I E, 8, .inl (fun _ => 0)))]) rfl hD
  refine W.widen (k := 5) (n := 28) (Nat.le_of_ble_eq_true rfl) (Nat.le_of_ble_eq_true rfl) ?_
  refine W.vret hx hb hr (fun t ht _ => ⟨?_, by rw [hAe]; exact hS.F ht⟩) hS.2.2 dX4_init_82 hlk
  exact ⟨pv_wT E a0 q1 q2 q3 q4 q5 (0, 5, 0, F1, F2, F3, (fun _ => 0), (fun _ => 0)), rfl, ⟨q1, q2, q3, q4, q5, (0, 5, 0, F1, F2, F3, (fun _ => 0), (fun _ => 0)), ⟨rfl, rfl, rfl, hF1, hF2, hF3, fun _ _ => rfl, fun _ _ => rfl⟩, rfl⟩, by rw [ht]; exact hP, by rw [hAe]; exact hD⟩
abbrev r_X1_init : Room := { frames := 1, cells := 5, slots := 18, locals := 12 }
set_option maxHeartbeats 4000000 in
set_option maxRecDepth 100000 in
theorem c_X1_init (l : Launch) (E : pv_E) (a0 sz : Nat) : Met l yX1_init wsX1_init r_X1_init (fun v U => pv_Pre E [(a0, .inr (0, [.null, .null, .null, .null, .null]))] sz [.ref a0] v U ∧ True) (pv_Rc E [(a0, .inr (0, [.null, .null, .null, .null, .null]))] sz (fun w1 => ∃ (a1 a2 a3 a4 a5 : Nat) (t : pv_GT), True ∧ w1 = pv_wG E a0 a1 a2 a3 a4 a5 t)) 5 18 (va_A [(a0, .inr (0, [.null, .null, .null, .null, .null]))] sz) := by
  refine pv_mkC (X := fun U => True) (by decide) rfl rfl (Nat.le_of_ble_eq_true rfl) ?_
  intro p e s m args below meth c A hx hb hr hml hown hts hlk hin hAe hP hD hA hE hS hX ls hl
  have hown : s.vm.findClass RX1 = some m.cls := hown
  have hK := hE.1
  have oi_l : (Cond.methodLink RX1 3 objectInit).before args s = true := hts _ (by decide +kernel)
  have oi_i : (Cond.instanceMethod objectInit).before args s = true := hts _ (by decide +kernel)
  have oi_c : (Cond.code objectInit ⟨#[0xb1]⟩ 1 none).before args s = true := hts _ (by decide +kernel)
  have ar_int : (Cond.arrayClass .int).before args s = true := hts _ (by decide +kernel)
  have fl_9 : (Cond.fieldLink RX1 9 "ProvinceCards$Game" "hands" "[I").before args s = true := hts _ (by decide +kernel)
  have i_RX1 : ∀ w ∈ wsX10, w ∈ wsX1_init := by decide +kernel
  have fl_15 : (Cond.fieldLink RX1 15 "ProvinceCards$Game" "played0" "[I").before args s = true := hts _ (by decide +kernel)
  have fl_18 : (Cond.fieldLink RX1 18 "ProvinceCards$Game" "played1" "[I").before args s = true := hts _ (by decide +kernel)
  have fl_21 : (Cond.fieldLink RX1 21 "ProvinceCards$Game" "leader" "[I").before args s = true := hts _ (by decide +kernel)
  have fl_24 : (Cond.fieldLink RX1 24 "ProvinceCards$Game" "winner" "[I").before args s = true := hts _ (by decide +kernel)
  have hl : lv_has ls 1 [(0, .ref a0)] := hl
  refine lv_aload_n (pc := 0) hx hb dX1_init_0 rfl (lv_at hl 0 rfl) ?_
  refine W.objInit hx hb hown oi_l oi_i oi_c rfl (by rw [hml]; exact hl.1) rfl dX1_init_1 (Nat.le_of_ble_eq_true rfl) (Nat.le_of_ble_eq_true rfl) ?_
  refine W.eq (g2 := F0 m 4 ls []) rfl ?_
  refine lv_aload_n (pc := 4) hx hb dX1_init_4 rfl (lv_at hl 0 rfl) ?_
  refine lv_iconst (pc := 5) (v := 2) hx hb dX1_init_5 (by decide) ?_
  refine pv_newa (pc := 6) (atype := .int) hx hb ar_int rfl hK hP hD hS hA 0 rfl (pv_raI hK) (a0 := (2, .inl (fun _ => 0))) (fun _ => rfl) (by decide) (by decide : (2 : Int32).toNatClampNeg = 2) (Nat.le_of_ble_eq_true rfl) (Nat.le_of_ble_eq_true rfl) (Nat.le_of_ble_eq_true rfl) dX1_init_6 (fun q1 H hP hD hS => ?_)
  have hP : va_P E.1 vwCl [(a0, .inr (0, [.null, .null, .null, .null, .null])), (q1, .inl (pv_I E, 2, .inl (fun _ => 0)))] H := hP
  have hD : va_D A [(a0, .inr (0, [.null, .null, .null, .null, .null])), (q1, .inl (pv_I E, 2, .inl (fun _ => 0)))] := hD
  refine va_putF (pc := 8) (D := E.1) (ci := 0) (v := .ref q1) (ty := .array .int) (C := RX1) (T := TX1) (N := 5) hx hb hts i_RX1 tyX1 tyX1_ok nmX1 hown hK hP hD hS 0 rfl rfl 0 (Nat.le_of_ble_eq_true rfl) fl_9 (fun _ h9 => h9) rfl hin rfl (tyX1_ok 0 (Nat.le_of_ble_eq_true rfl)) rfl rfl (Nat.le_of_ble_eq_true rfl) dX1_init_8 (fun H locs hP hD hS => ?_)
  have hP : va_P E.1 vwCl [(a0, .inr (0, [.ref q1, .null, .null, .null, .null])), (q1, .inl (pv_I E, 2, .inl (fun _ => 0)))] H := hP
  have hD : va_D A [(a0, .inr (0, [.ref q1, .null, .null, .null, .null])), (q1, .inl (pv_I E, 2, .inl (fun _ => 0)))] := hD
  refine lv_aload_n (pc := 11) hx hb dX1_init_11 rfl (lv_at hl 0 rfl) ?_
  refine lv_iconst (pc := 12) (v := 4) hx hb dX1_init_12 (by decide) ?_
  refine pv_newa (pc := 13) (atype := .int) hx hb ar_int rfl hK hP hD hS hA 0 rfl (pv_raI hK) (a0 := (4, .inl (fun _ => 0))) (fun _ => rfl) (by decide) (by decide : (4 : Int32).toNatClampNeg = 4) (Nat.le_of_ble_eq_true rfl) (Nat.le_of_ble_eq_true rfl) (Nat.le_of_ble_eq_true rfl) dX1_init_13 (fun q2 H hP hD hS => ?_)
  have hP : va_P E.1 vwCl [(a0, .inr (0, [.ref q1, .null, .null, .null, .null])), (q1, .inl (pv_I E, 2, .inl (fun _ => 0))), (q2, .inl (pv_I E, 4, .inl (fun _ => 0)))] H := hP
  have hD : va_D A [(a0, .inr (0, [.ref q1, .null, .null, .null, .null])), (q1, .inl (pv_I E, 2, .inl (fun _ => 0))), (q2, .inl (pv_I E, 4, .inl (fun _ => 0)))] := hD
  refine va_putF (pc := 15) (D := E.1) (ci := 0) (v := .ref q2) (ty := .array .int) (C := RX1) (T := TX1) (N := 5) hx hb hts i_RX1 tyX1 tyX1_ok nmX1 hown hK hP hD hS 0 rfl rfl 1 (Nat.le_of_ble_eq_true rfl) fl_15 (fun _ h9 => h9) rfl hin rfl (tyX1_ok 1 (Nat.le_of_ble_eq_true rfl)) rfl rfl (Nat.le_of_ble_eq_true rfl) dX1_init_15 (fun H locs hP hD hS => ?_)
  have hP : va_P E.1 vwCl [(a0, .inr (0, [.ref q1, .ref q2, .null, .null, .null])), (q1, .inl (pv_I E, 2, .inl (fun _ => 0))), (q2, .inl (pv_I E, 4, .inl (fun _ => 0)))] H := hP
  have hD : va_D A [(a0, .inr (0, [.ref q1, .ref q2, .null, .null, .null])), (q1, .inl (pv_I E, 2, .inl (fun _ => 0))), (q2, .inl (pv_I E, 4, .inl (fun _ => 0)))] := hD
  refine lv_aload_n (pc := 18) hx hb dX1_init_18 rfl (lv_at hl 0 rfl) ?_
  refine lv_iconst (pc := 19) (v := 4) hx hb dX1_init_19 (by decide) ?_
  refine pv_newa (pc := 20) (atype := .int) hx hb ar_int rfl hK hP hD hS hA 0 rfl (pv_raI hK) (a0 := (4, .inl (fun _ => 0))) (fun _ => rfl) (by decide) (by decide : (4 : Int32).toNatClampNeg = 4) (Nat.le_of_ble_eq_true rfl) (Nat.le_of_ble_eq_true rfl) (Nat.le_of_ble_eq_true rfl) dX1_init_20 (fun q3 H hP hD hS => ?_)
  have hP : va_P E.1 vwCl [(a0, .inr (0, [.ref q1, .ref q2, .null, .null, .null])), (q1, .inl (pv_I E, 2, .inl (fun _ => 0))), (q2, .inl (pv_I E, 4, .inl (fun _ => 0))), (q3, .inl (pv_I E, 4, .inl (fun _ => 0)))] H := hP
  have hD : va_D A [(a0, .inr (0, [.ref q1, .ref q2, .null, .null, .null])), (q1, .inl (pv_I E, 2, .inl (fun _ => 0))), (q2, .inl (pv_I E, 4, .inl (fun _ => 0))), (q3, .inl (pv_I E, 4, .inl (fun _ => 0)))] := hD
  refine va_putF (pc := 22) (D := E.1) (ci := 0) (v := .ref q3) (ty := .array .int) (C := RX1) (T := TX1) (N := 5) hx hb hts i_RX1 tyX1 tyX1_ok nmX1 hown hK hP hD hS 0 rfl rfl 2 (Nat.le_of_ble_eq_true rfl) fl_18 (fun _ h9 => h9) rfl hin rfl (tyX1_ok 2 (Nat.le_of_ble_eq_true rfl)) rfl rfl (Nat.le_of_ble_eq_true rfl) dX1_init_22 (fun H locs hP hD hS => ?_)
  have hP : va_P E.1 vwCl [(a0, .inr (0, [.ref q1, .ref q2, .ref q3, .null, .null])), (q1, .inl (pv_I E, 2, .inl (fun _ => 0))), (q2, .inl (pv_I E, 4, .inl (fun _ => 0))), (q3, .inl (pv_I E, 4, .inl (fun _ => 0)))] H := hP
  have hD : va_D A [(a0, .inr (0, [.ref q1, .ref q2, .ref q3, .null, .null])), (q1, .inl (pv_I E, 2, .inl (fun _ => 0))), (q2, .inl (pv_I E, 4, .inl (fun _ => 0))), (q3, .inl (pv_I E, 4, .inl (fun _ => 0)))] := hD
  refine lv_aload_n (pc := 25) hx hb dX1_init_25 rfl (lv_at hl 0 rfl) ?_
  refine lv_iconst (pc := 26) (v := 4) hx hb dX1_init_26 (by decide) ?_
  refine pv_newa (pc := 27) (atype := .int) hx hb ar_int rfl hK hP hD hS hA 0 rfl (pv_raI hK) (a0 := (4, .inl (fun _ => 0))) (fun _ => rfl) (by decide) (by decide : (4 : Int32).toNatClampNeg = 4) (Nat.le_of_ble_eq_true rfl) (Nat.le_of_ble_eq_true rfl) (Nat.le_of_ble_eq_true rfl) dX1_init_27 (fun q4 H hP hD hS => ?_)
  have hP : va_P E.1 vwCl [(a0, .inr (0, [.ref q1, .ref q2, .ref q3, .null, .null])), (q1, .inl (pv_I E, 2, .inl (fun _ => 0))), (q2, .inl (pv_I E, 4, .inl (fun _ => 0))), (q3, .inl (pv_I E, 4, .inl (fun _ => 0))), (q4, .inl (pv_I E, 4, .inl (fun _ => 0)))] H := hP
  have hD : va_D A [(a0, .inr (0, [.ref q1, .ref q2, .ref q3, .null, .null])), (q1, .inl (pv_I E, 2, .inl (fun _ => 0))), (q2, .inl (pv_I E, 4, .inl (fun _ => 0))), (q3, .inl (pv_I E, 4, .inl (fun _ => 0))), (q4, .inl (pv_I E, 4, .inl (fun _ => 0)))] := hD
  refine va_putF (pc := 29) (D := E.1) (ci := 0) (v := .ref q4) (ty := .array .int) (C := RX1) (T := TX1) (N := 5) hx hb hts i_RX1 tyX1 tyX1_ok nmX1 hown hK hP hD hS 0 rfl rfl 3 (Nat.le_of_ble_eq_true rfl) fl_21 (fun _ h9 => h9) rfl hin rfl (tyX1_ok 3 (Nat.le_of_ble_eq_true rfl)) rfl rfl (Nat.le_of_ble_eq_true rfl) dX1_init_29 (fun H locs hP hD hS => ?_)
  have hP : va_P E.1 vwCl [(a0, .inr (0, [.ref q1, .ref q2, .ref q3, .ref q4, .null])), (q1, .inl (pv_I E, 2, .inl (fun _ => 0))), (q2, .inl (pv_I E, 4, .inl (fun _ => 0))), (q3, .inl (pv_I E, 4, .inl (fun _ => 0))), (q4, .inl (pv_I E, 4, .inl (fun _ => 0)))] H := hP
  have hD : va_D A [(a0, .inr (0, [.ref q1, .ref q2, .ref q3, .ref q4, .null])), (q1, .inl (pv_I E, 2, .inl (fun _ => 0))), (q2, .inl (pv_I E, 4, .inl (fun _ => 0))), (q3, .inl (pv_I E, 4, .inl (fun _ => 0))), (q4, .inl (pv_I E, 4, .inl (fun _ => 0)))] := hD
  refine lv_aload_n (pc := 32) hx hb dX1_init_32 rfl (lv_at hl 0 rfl) ?_
  refine lv_iconst (pc := 33) (v := 4) hx hb dX1_init_33 (by decide) ?_
  refine pv_newa (pc := 34) (atype := .int) hx hb ar_int rfl hK hP hD hS hA 0 rfl (pv_raI hK) (a0 := (4, .inl (fun _ => 0))) (fun _ => rfl) (by decide) (by decide : (4 : Int32).toNatClampNeg = 4) (Nat.le_of_ble_eq_true rfl) (Nat.le_of_ble_eq_true rfl) (Nat.le_of_ble_eq_true rfl) dX1_init_34 (fun q5 H hP hD hS => ?_)
  have hP : va_P E.1 vwCl [(a0, .inr (0, [.ref q1, .ref q2, .ref q3, .ref q4, .null])), (q1, .inl (pv_I E, 2, .inl (fun _ => 0))), (q2, .inl (pv_I E, 4, .inl (fun _ => 0))), (q3, .inl (pv_I E, 4, .inl (fun _ => 0))), (q4, .inl (pv_I E, 4, .inl (fun _ => 0))), (q5, .inl (pv_I E, 4, .inl (fun _ => 0)))] H := hP
  have hD : va_D A [(a0, .inr (0, [.ref q1, .ref q2, .ref q3, .ref q4, .null])), (q1, .inl (pv_I E, 2, .inl (fun _ => 0))), (q2, .inl (pv_I E, 4, .inl (fun _ => 0))), (q3, .inl (pv_I E, 4, .inl (fun _ => 0))), (q4, .inl (pv_I E, 4, .inl (fun _ => 0))), (q5, .inl (pv_I E, 4, .inl (fun _ => 0)))] := hD
  refine va_putF (pc := 36) (D := E.1) (ci := 0) (v := .ref q5) (ty := .array .int) (C := RX1) (T := TX1) (N := 5) hx hb hts i_RX1 tyX1 tyX1_ok nmX1 hown hK hP hD hS 0 rfl rfl 4 (Nat.le_of_ble_eq_true rfl) fl_24 (fun _ h9 => h9) rfl hin rfl (tyX1_ok 4 (Nat.le_of_ble_eq_true rfl)) rfl rfl (Nat.le_of_ble_eq_true rfl) dX1_init_36 (fun H locs hP hD hS => ?_)
  have hP : va_P E.1 vwCl [(a0, .inr (0, [.ref q1, .ref q2, .ref q3, .ref q4, .ref q5])), (q1, .inl (pv_I E, 2, .inl (fun _ => 0))), (q2, .inl (pv_I E, 4, .inl (fun _ => 0))), (q3, .inl (pv_I E, 4, .inl (fun _ => 0))), (q4, .inl (pv_I E, 4, .inl (fun _ => 0))), (q5, .inl (pv_I E, 4, .inl (fun _ => 0)))] H := hP
  have hD : va_D A [(a0, .inr (0, [.ref q1, .ref q2, .ref q3, .ref q4, .ref q5])), (q1, .inl (pv_I E, 2, .inl (fun _ => 0))), (q2, .inl (pv_I E, 4, .inl (fun _ => 0))), (q3, .inl (pv_I E, 4, .inl (fun _ => 0))), (q4, .inl (pv_I E, 4, .inl (fun _ => 0))), (q5, .inl (pv_I E, 4, .inl (fun _ => 0)))] := hD
  refine W.widen (k := 5) (n := 18) (Nat.le_of_ble_eq_true rfl) (Nat.le_of_ble_eq_true rfl) ?_
  refine W.vret hx hb hr (fun t ht _ => ⟨?_, by rw [hAe]; exact hS.F ht⟩) hS.2.2 dX1_init_39 hlk
  exact ⟨pv_wG E a0 q1 q2 q3 q4 q5 ((fun _ => 0), (fun _ => 0), (fun _ => 0), (fun _ => 0), (fun _ => 0)), rfl, ⟨q1, q2, q3, q4, q5, ((fun _ => 0), (fun _ => 0), (fun _ => 0), (fun _ => 0), (fun _ => 0)), trivial, rfl⟩, by rw [ht]; exact hP, by rw [hAe]; exact hD⟩
abbrev r_X5_init : Room := { frames := 1, cells := 1, slots := 120, locals := 12 }
set_option maxHeartbeats 4000000 in
set_option maxRecDepth 100000 in
theorem c_X5_init (l : Launch) (E : pv_E) (a0 sz : Nat) : Met l yX5_init wsX5_init r_X5_init (fun v U => pv_Pre E [(a0, .inr (3, [.null, .int 0, .int 0, .int 0, .int 0, .int 0]))] sz [.ref a0] v U ∧ True) (pv_Rc E [(a0, .inr (3, [.null, .int 0, .int 0, .int 0, .int 0, .int 0]))] sz (fun w1 => ∃ (a1 : Nat) (t : pv_PT), pv_iP t ∧ w1 = pv_wP E a0 a1 t)) 1 120 (va_A [(a0, .inr (3, [.null, .int 0, .int 0, .int 0, .int 0, .int 0]))] sz) := by
  refine pv_mkC (X := fun U => True) (by decide) rfl rfl (Nat.le_of_ble_eq_true rfl) ?_
  intro p e s m args below meth c A hx hb hr hml hown hts hlk hin hAe hP hD hA hE hS hX ls hl
  have hown : s.vm.findClass RX5 = some m.cls := hown
  have hK := hE.1
  have oi_l : (Cond.methodLink RX5 3 objectInit).before args s = true := hts _ (by decide +kernel)
  have oi_i : (Cond.instanceMethod objectInit).before args s = true := hts _ (by decide +kernel)
  have oi_c : (Cond.code objectInit ⟨#[0xb1]⟩ 1 none).before args s = true := hts _ (by decide +kernel)
  have ar_int : (Cond.arrayClass .int).before args s = true := hts _ (by decide +kernel)
  have fl_11 : (Cond.fieldLink RX5 11 "ProvinceCards$Tape" "bytes" "[I").before args s = true := hts _ (by decide +kernel)
  have i_RX5 : ∀ w ∈ wsX50, w ∈ wsX5_init := by decide +kernel
  have fl_15 : (Cond.fieldLink RX5 15 "ProvinceCards$Tape" "length" "I").before args s = true := hts _ (by decide +kernel)
  have hl : lv_has ls 1 [(0, .ref a0)] := hl
  refine lv_aload_n (pc := 0) hx hb dX5_init_0 rfl (lv_at hl 0 rfl) ?_
  refine W.objInit hx hb hown oi_l oi_i oi_c rfl (by rw [hml]; exact hl.1) rfl dX5_init_1 (Nat.le_of_ble_eq_true rfl) (Nat.le_of_ble_eq_true rfl) ?_
  refine W.eq (g2 := F0 m 4 ls []) rfl ?_
  refine lv_aload_n (pc := 4) hx hb dX5_init_4 rfl (lv_at hl 0 rfl) ?_
  refine lv_bipush (pc := 5) (v := 120) hx hb dX5_init_5 (by decide) ?_
  refine pv_newa (pc := 7) (atype := .int) hx hb ar_int rfl hK hP hD hS hA 0 rfl (pv_raI hK) (a0 := (120, .inl (fun _ => 0))) (fun _ => rfl) (by decide) (by decide : (120 : Int32).toNatClampNeg = 120) (Nat.le_of_ble_eq_true rfl) (Nat.le_of_ble_eq_true rfl) (Nat.le_of_ble_eq_true rfl) dX5_init_7 (fun q1 H hP hD hS => ?_)
  have hP : va_P E.1 vwCl [(a0, .inr (3, [.null, .int 0, .int 0, .int 0, .int 0, .int 0])), (q1, .inl (pv_I E, 120, .inl (fun _ => 0)))] H := hP
  have hD : va_D A [(a0, .inr (3, [.null, .int 0, .int 0, .int 0, .int 0, .int 0])), (q1, .inl (pv_I E, 120, .inl (fun _ => 0)))] := hD
  refine va_putF (pc := 9) (D := E.1) (ci := 3) (v := .ref q1) (ty := .array .int) (C := RX5) (T := TX5) (N := 6) hx hb hts i_RX5 tyX5 tyX5_ok nmX5 hown hK hP hD hS 0 rfl rfl 0 (Nat.le_of_ble_eq_true rfl) fl_11 (fun _ h9 => h9) rfl hin rfl (tyX5_ok 0 (Nat.le_of_ble_eq_true rfl)) rfl rfl (Nat.le_of_ble_eq_true rfl) dX5_init_9 (fun H locs hP hD hS => ?_)
  have hP : va_P E.1 vwCl [(a0, .inr (3, [.ref q1, .int 0, .int 0, .int 0, .int 0, .int 0])), (q1, .inl (pv_I E, 120, .inl (fun _ => 0)))] H := hP
  have hD : va_D A [(a0, .inr (3, [.ref q1, .int 0, .int 0, .int 0, .int 0, .int 0])), (q1, .inl (pv_I E, 120, .inl (fun _ => 0)))] := hD
  refine lv_aload_n (pc := 12) hx hb dX5_init_12 rfl (lv_at hl 0 rfl) ?_
  refine lv_iconst (pc := 13) (v := 0) hx hb dX5_init_13 (by decide) ?_
  refine va_put (pc := 14) (D := E.1) (ci := 3) (v := .int 0) (ty := .int) (C := RX5) (T := TX5) (N := 6) hx hb hts i_RX5 tyX5 tyX5_ok nmX5 hown hK hP hD hS 0 rfl rfl 1 (Nat.le_of_ble_eq_true rfl) fl_15 (fun _ h9 => h9) rfl (tyX5_ok 1 (Nat.le_of_ble_eq_true rfl)) rfl rfl (Nat.le_of_ble_eq_true rfl) dX5_init_14 (fun H locs hP hD hS => ?_)
  have hP : va_P E.1 vwCl [(a0, .inr (3, [.ref q1, .int 0, .int 0, .int 0, .int 0, .int 0])), (q1, .inl (pv_I E, 120, .inl (fun _ => 0)))] H := hP
  have hD : va_D A [(a0, .inr (3, [.ref q1, .int 0, .int 0, .int 0, .int 0, .int 0])), (q1, .inl (pv_I E, 120, .inl (fun _ => 0)))] := hD
  refine W.widen (k := 1) (n := 120) (Nat.le_of_ble_eq_true rfl) (Nat.le_of_ble_eq_true rfl) ?_
  refine W.vret hx hb hr (fun t ht _ => ⟨?_, by rw [hAe]; exact hS.F ht⟩) hS.2.2 dX5_init_17 hlk
  exact ⟨pv_wP E a0 q1 ((fun _ => 0), 0, 0, 0, 0, 0), rfl, ⟨q1, ((fun _ => 0), 0, 0, 0, 0, 0), ⟨rfl, fun _ _ => rfl⟩, rfl⟩, by rw [ht]; exact hP, by rw [hAe]; exact hD⟩
abbrev r_X3_init : Room := { frames := 1, cells := 1, slots := 40, locals := 12 }
set_option maxHeartbeats 4000000 in
set_option maxRecDepth 100000 in
theorem c_X3_init (l : Launch) (E : pv_E) (a0 sz : Nat) : Met l yX3_init wsX3_init r_X3_init (fun v U => pv_Pre E [(a0, .inr (1, [.null, .int 0, .int 0]))] sz [.ref a0] v U ∧ True) (pv_Rc E [(a0, .inr (1, [.null, .int 0, .int 0]))] sz (fun w1 => ∃ (a1 : Nat) (t : pv_ST), pv_iS t ∧ w1 = pv_wS E a0 a1 t)) 1 40 (va_A [(a0, .inr (1, [.null, .int 0, .int 0]))] sz) := by
  refine pv_mkC (X := fun U => True) (by decide) rfl rfl (Nat.le_of_ble_eq_true rfl) ?_
  intro p e s m args below meth c A hx hb hr hml hown hts hlk hin hAe hP hD hA hE hS hX ls hl
  have hown : s.vm.findClass RX3 = some m.cls := hown
  have hK := hE.1
  have oi_l : (Cond.methodLink RX3 1 objectInit).before args s = true := hts _ (by decide +kernel)
  have oi_i : (Cond.instanceMethod objectInit).before args s = true := hts _ (by decide +kernel)
  have oi_c : (Cond.code objectInit ⟨#[0xb1]⟩ 1 none).before args s = true := hts _ (by decide +kernel)
  have ar_long : (Cond.arrayClass .long).before args s = true := hts _ (by decide +kernel)
  have fl_9 : (Cond.fieldLink RX3 9 "ProvinceCards$Sheet" "numbers" "[J").before args s = true := hts _ (by decide +kernel)
  have i_RX3 : ∀ w ∈ wsX30, w ∈ wsX3_init := by decide +kernel
  have fl_13 : (Cond.fieldLink RX3 13 "ProvinceCards$Sheet" "bits" "I").before args s = true := hts _ (by decide +kernel)
  have fl_17 : (Cond.fieldLink RX3 17 "ProvinceCards$Sheet" "size" "I").before args s = true := hts _ (by decide +kernel)
  have hl : lv_has ls 1 [(0, .ref a0)] := hl
  refine lv_aload_n (pc := 0) hx hb dX3_init_0 rfl (lv_at hl 0 rfl) ?_
  refine W.objInit hx hb hown oi_l oi_i oi_c rfl (by rw [hml]; exact hl.1) rfl dX3_init_1 (Nat.le_of_ble_eq_true rfl) (Nat.le_of_ble_eq_true rfl) ?_
  refine W.eq (g2 := F0 m 4 ls []) rfl ?_
  refine lv_aload_n (pc := 4) hx hb dX3_init_4 rfl (lv_at hl 0 rfl) ?_
  refine lv_bipush (pc := 5) (v := 40) hx hb dX3_init_5 (by decide) ?_
  refine pv_newa (pc := 7) (atype := .long) hx hb ar_long rfl hK hP hD hS hA 1 rfl (pv_raJ hK) (a0 := (40, .inr (.inl (fun _ => 0)))) (fun _ => rfl) (by decide) (by decide : (40 : Int32).toNatClampNeg = 40) (Nat.le_of_ble_eq_true rfl) (Nat.le_of_ble_eq_true rfl) (Nat.le_of_ble_eq_true rfl) dX3_init_7 (fun q1 H hP hD hS => ?_)
  have hP : va_P E.1 vwCl [(a0, .inr (1, [.null, .int 0, .int 0])), (q1, .inl (pv_J E, 40, .inr (.inl (fun _ => 0))))] H := hP
  have hD : va_D A [(a0, .inr (1, [.null, .int 0, .int 0])), (q1, .inl (pv_J E, 40, .inr (.inl (fun _ => 0))))] := hD
  refine va_putF (pc := 9) (D := E.1) (ci := 1) (v := .ref q1) (ty := .array .long) (C := RX3) (T := TX3) (N := 3) hx hb hts i_RX3 tyX3 tyX3_ok nmX3 hown hK hP hD hS 0 rfl rfl 0 (Nat.le_of_ble_eq_true rfl) fl_9 (fun _ h9 => h9) rfl hin rfl (tyX3_ok 0 (Nat.le_of_ble_eq_true rfl)) rfl rfl (Nat.le_of_ble_eq_true rfl) dX3_init_9 (fun H locs hP hD hS => ?_)
  have hP : va_P E.1 vwCl [(a0, .inr (1, [.ref q1, .int 0, .int 0])), (q1, .inl (pv_J E, 40, .inr (.inl (fun _ => 0))))] H := hP
  have hD : va_D A [(a0, .inr (1, [.ref q1, .int 0, .int 0])), (q1, .inl (pv_J E, 40, .inr (.inl (fun _ => 0))))] := hD
  refine lv_aload_n (pc := 12) hx hb dX3_init_12 rfl (lv_at hl 0 rfl) ?_
  refine lv_iconst (pc := 13) (v := 0) hx hb dX3_init_13 (by decide) ?_
  refine va_put (pc := 14) (D := E.1) (ci := 1) (v := .int 0) (ty := .int) (C := RX3) (T := TX3) (N := 3) hx hb hts i_RX3 tyX3 tyX3_ok nmX3 hown hK hP hD hS 0 rfl rfl 1 (Nat.le_of_ble_eq_true rfl) fl_13 (fun _ h9 => h9) rfl (tyX3_ok 1 (Nat.le_of_ble_eq_true rfl)) rfl rfl (Nat.le_of_ble_eq_true rfl) dX3_init_14 (fun H locs hP hD hS => ?_)
  have hP : va_P E.1 vwCl [(a0, .inr (1, [.ref q1, .int 0, .int 0])), (q1, .inl (pv_J E, 40, .inr (.inl (fun _ => 0))))] H := hP
  have hD : va_D A [(a0, .inr (1, [.ref q1, .int 0, .int 0])), (q1, .inl (pv_J E, 40, .inr (.inl (fun _ => 0))))] := hD
  refine lv_aload_n (pc := 17) hx hb dX3_init_17 rfl (lv_at hl 0 rfl) ?_
  refine lv_iconst (pc := 18) (v := 0) hx hb dX3_init_18 (by decide) ?_
  refine va_put (pc := 19) (D := E.1) (ci := 1) (v := .int 0) (ty := .int) (C := RX3) (T := TX3) (N := 3) hx hb hts i_RX3 tyX3 tyX3_ok nmX3 hown hK hP hD hS 0 rfl rfl 2 (Nat.le_of_ble_eq_true rfl) fl_17 (fun _ h9 => h9) rfl (tyX3_ok 2 (Nat.le_of_ble_eq_true rfl)) rfl rfl (Nat.le_of_ble_eq_true rfl) dX3_init_19 (fun H locs hP hD hS => ?_)
  have hP : va_P E.1 vwCl [(a0, .inr (1, [.ref q1, .int 0, .int 0])), (q1, .inl (pv_J E, 40, .inr (.inl (fun _ => 0))))] H := hP
  have hD : va_D A [(a0, .inr (1, [.ref q1, .int 0, .int 0])), (q1, .inl (pv_J E, 40, .inr (.inl (fun _ => 0))))] := hD
  refine W.widen (k := 1) (n := 40) (Nat.le_of_ble_eq_true rfl) (Nat.le_of_ble_eq_true rfl) ?_
  refine W.vret hx hb hr (fun t ht _ => ⟨?_, by rw [hAe]; exact hS.F ht⟩) hS.2.2 dX3_init_22 hlk
  exact ⟨pv_wS E a0 q1 (0, 0, (fun _ => 0)), rfl, ⟨q1, (0, 0, (fun _ => 0)), ⟨rfl, rfl, fun _ _ => rfl⟩, rfl⟩, by rw [ht]; exact hP, by rw [hAe]; exact hD⟩
def pv_m0 : pv_MT := ((upd (upd (upd (upd (upd (upd (upd (upd (upd (upd (upd (upd (upd (fun _ => 0) 1 5) 3 (-1)) 5 50) 4 (-1)) 6 50) 7 (-1)) 8 (-1)) 9 (-1)) 10 (-1)) 11 (-1)) 12 (-1)) 13 (-1)) 14 (-1)), (fun _ => 0), (fun _ => 0), 0, (fun _ => 0), (fun _ => 0), (fun _ => 0), (fun _ => 0), 0, 0, 0, 0, 0, 0, (fun _ => 0), (fun _ => 0), (fun _ => 0))
abbrev r_X7_init : Room := { frames := 1, cells := 10, slots := 406, locals := 12 }
set_option maxHeartbeats 4000000 in
set_option maxRecDepth 100000 in
theorem c_X7_init (l : Launch) (E : pv_E) (a0 sz : Nat) : Met l yX7_init wsX7_init r_X7_init (fun v U => pv_Pre E [(a0, .inr (5, [.null, .null, .null, .int 0, .null, .null, .null, .null, .int 0, .int 0, .int 0, .int 0, .int 0, .int 0, .null, .null, .null]))] sz [.ref a0] v U ∧ True) (pv_Rc E [(a0, .inr (5, [.null, .null, .null, .int 0, .null, .null, .null, .null, .int 0, .int 0, .int 0, .int 0, .int 0, .int 0, .null, .null, .null]))] sz (fun w1 => ∃ (a1 a2 a3 a4 a5 a6 a7 a8 a9 a10 : Nat), w1 = pv_wM E a0 a1 a2 a3 a4 a5 a6 a7 a8 a9 a10 pv_m0)) 10 406 (va_A [(a0, .inr (5, [.null, .null, .null, .int 0, .null, .null, .null, .null, .int 0, .int 0, .int 0, .int 0, .int 0, .int 0, .null, .null, .null]))] sz) := by
  refine pv_mkC (X := fun U => True) (by decide) rfl rfl (Nat.le_of_ble_eq_true rfl) ?_
  intro p e s m args below meth c A hx hb hr hml hown hts hlk hin hAe hP hD hA hE hS hX ls hl
  have hown : s.vm.findClass RX7 = some m.cls := hown
  have hK := hE.1
  have oi_l : (Cond.methodLink RX7 3 objectInit).before args s = true := hts _ (by decide +kernel)
  have oi_i : (Cond.instanceMethod objectInit).before args s = true := hts _ (by decide +kernel)
  have oi_c : (Cond.code objectInit ⟨#[0xb1]⟩ 1 none).before args s = true := hts _ (by decide +kernel)
  have ar_int : (Cond.arrayClass .int).before args s = true := hts _ (by decide +kernel)
  have fl_9 : (Cond.fieldLink RX7 9 "ProvinceCardsModel" "m" "[I").before args s = true := hts _ (by decide +kernel)
  have i_RX7 : ∀ w ∈ wsX70, w ∈ wsX7_init := by decide +kernel
  have fl_13 : (Cond.fieldLink RX7 13 "ProvinceCardsModel" "kept" "[I").before args s = true := hts _ (by decide +kernel)
  have fl_16 : (Cond.fieldLink RX7 16 "ProvinceCardsModel" "was" "[I").before args s = true := hts _ (by decide +kernel)
  have fl_19 : (Cond.fieldLink RX7 19 "ProvinceCardsModel" "found" "[I").before args s = true := hts _ (by decide +kernel)
  have fl_22 : (Cond.fieldLink RX7 22 "ProvinceCardsModel" "played" "[I").before args s = true := hts _ (by decide +kernel)
  have fl_25 : (Cond.fieldLink RX7 25 "ProvinceCardsModel" "hands" "[I").before args s = true := hts _ (by decide +kernel)
  have fl_28 : (Cond.fieldLink RX7 28 "ProvinceCardsModel" "tape" "[I").before args s = true := hts _ (by decide +kernel)
  have fl_31 : (Cond.fieldLink RX7 31 "ProvinceCardsModel" "bitsOf" "[I").before args s = true := hts _ (by decide +kernel)
  have fl_34 : (Cond.fieldLink RX7 34 "ProvinceCardsModel" "sizeOf" "[I").before args s = true := hts _ (by decide +kernel)
  have ar_long : (Cond.arrayClass .long).before args s = true := hts _ (by decide +kernel)
  have fl_37 : (Cond.fieldLink RX7 37 "ProvinceCardsModel" "cells" "[J").before args s = true := hts _ (by decide +kernel)
  have hl : lv_has ls 2 [(0, .ref a0)] := hl
  refine lv_aload_n (pc := 0) hx hb dX7_init_0 rfl (lv_at hl 0 rfl) ?_
  refine W.objInit hx hb hown oi_l oi_i oi_c rfl (by rw [hml]; exact hl.1) rfl dX7_init_1 (Nat.le_of_ble_eq_true rfl) (Nat.le_of_ble_eq_true rfl) ?_
  refine W.eq (g2 := F0 m 4 ls []) rfl ?_
  refine lv_aload_n (pc := 4) hx hb dX7_init_4 rfl (lv_at hl 0 rfl) ?_
  refine lv_bipush (pc := 5) (v := 31) hx hb dX7_init_5 (by decide) ?_
  refine pv_newa (pc := 7) (atype := .int) hx hb ar_int rfl hK hP hD hS hA 0 rfl (pv_raI hK) (a0 := (31, .inl (fun _ => 0))) (fun _ => rfl) (by decide) (by decide : (31 : Int32).toNatClampNeg = 31) (Nat.le_of_ble_eq_true rfl) (Nat.le_of_ble_eq_true rfl) (Nat.le_of_ble_eq_true rfl) dX7_init_7 (fun q1 H hP hD hS => ?_)
  have hP : va_P E.1 vwCl [(a0, .inr (5, [.null, .null, .null, .int 0, .null, .null, .null, .null, .int 0, .int 0, .int 0, .int 0, .int 0, .int 0, .null, .null, .null])), (q1, .inl (pv_I E, 31, .inl (fun _ => 0)))] H := hP
  have hD : va_D A [(a0, .inr (5, [.null, .null, .null, .int 0, .null, .null, .null, .null, .int 0, .int 0, .int 0, .int 0, .int 0, .int 0, .null, .null, .null])), (q1, .inl (pv_I E, 31, .inl (fun _ => 0)))] := hD
  refine va_putF (pc := 9) (D := E.1) (ci := 5) (v := .ref q1) (ty := .array .int) (C := RX7) (T := TX7) (N := 17) hx hb hts i_RX7 tyX7 tyX7_ok nmX7 hown hK hP hD hS 0 rfl rfl 0 (Nat.le_of_ble_eq_true rfl) fl_9 (fun _ h9 => h9) rfl hin rfl (tyX7_ok 0 (Nat.le_of_ble_eq_true rfl)) rfl rfl (Nat.le_of_ble_eq_true rfl) dX7_init_9 (fun H locs hP hD hS => ?_)
  have hP : va_P E.1 vwCl [(a0, .inr (5, [.ref q1, .null, .null, .int 0, .null, .null, .null, .null, .int 0, .int 0, .int 0, .int 0, .int 0, .int 0, .null, .null, .null])), (q1, .inl (pv_I E, 31, .inl (fun _ => 0)))] H := hP
  have hD : va_D A [(a0, .inr (5, [.ref q1, .null, .null, .int 0, .null, .null, .null, .null, .int 0, .int 0, .int 0, .int 0, .int 0, .int 0, .null, .null, .null])), (q1, .inl (pv_I E, 31, .inl (fun _ => 0)))] := hD
  refine lv_aload_n (pc := 12) hx hb dX7_init_12 rfl (lv_at hl 0 rfl) ?_
  refine lv_bipush (pc := 13) (v := 31) hx hb dX7_init_13 (by decide) ?_
  refine pv_newa (pc := 15) (atype := .int) hx hb ar_int rfl hK hP hD hS hA 0 rfl (pv_raI hK) (a0 := (31, .inl (fun _ => 0))) (fun _ => rfl) (by decide) (by decide : (31 : Int32).toNatClampNeg = 31) (Nat.le_of_ble_eq_true rfl) (Nat.le_of_ble_eq_true rfl) (Nat.le_of_ble_eq_true rfl) dX7_init_15 (fun q2 H hP hD hS => ?_)
  have hP : va_P E.1 vwCl [(a0, .inr (5, [.ref q1, .null, .null, .int 0, .null, .null, .null, .null, .int 0, .int 0, .int 0, .int 0, .int 0, .int 0, .null, .null, .null])), (q1, .inl (pv_I E, 31, .inl (fun _ => 0))), (q2, .inl (pv_I E, 31, .inl (fun _ => 0)))] H := hP
  have hD : va_D A [(a0, .inr (5, [.ref q1, .null, .null, .int 0, .null, .null, .null, .null, .int 0, .int 0, .int 0, .int 0, .int 0, .int 0, .null, .null, .null])), (q1, .inl (pv_I E, 31, .inl (fun _ => 0))), (q2, .inl (pv_I E, 31, .inl (fun _ => 0)))] := hD
  refine va_putF (pc := 17) (D := E.1) (ci := 5) (v := .ref q2) (ty := .array .int) (C := RX7) (T := TX7) (N := 17) hx hb hts i_RX7 tyX7 tyX7_ok nmX7 hown hK hP hD hS 0 rfl rfl 1 (Nat.le_of_ble_eq_true rfl) fl_13 (fun _ h9 => h9) rfl hin rfl (tyX7_ok 1 (Nat.le_of_ble_eq_true rfl)) rfl rfl (Nat.le_of_ble_eq_true rfl) dX7_init_17 (fun H locs hP hD hS => ?_)
  have hP : va_P E.1 vwCl [(a0, .inr (5, [.ref q1, .ref q2, .null, .int 0, .null, .null, .null, .null, .int 0, .int 0, .int 0, .int 0, .int 0, .int 0, .null, .null, .null])), (q1, .inl (pv_I E, 31, .inl (fun _ => 0))), (q2, .inl (pv_I E, 31, .inl (fun _ => 0)))] H := hP
  have hD : va_D A [(a0, .inr (5, [.ref q1, .ref q2, .null, .int 0, .null, .null, .null, .null, .int 0, .int 0, .int 0, .int 0, .int 0, .int 0, .null, .null, .null])), (q1, .inl (pv_I E, 31, .inl (fun _ => 0))), (q2, .inl (pv_I E, 31, .inl (fun _ => 0)))] := hD
  refine lv_aload_n (pc := 20) hx hb dX7_init_20 rfl (lv_at hl 0 rfl) ?_
  refine lv_bipush (pc := 21) (v := 31) hx hb dX7_init_21 (by decide) ?_
  refine pv_newa (pc := 23) (atype := .int) hx hb ar_int rfl hK hP hD hS hA 0 rfl (pv_raI hK) (a0 := (31, .inl (fun _ => 0))) (fun _ => rfl) (by decide) (by decide : (31 : Int32).toNatClampNeg = 31) (Nat.le_of_ble_eq_true rfl) (Nat.le_of_ble_eq_true rfl) (Nat.le_of_ble_eq_true rfl) dX7_init_23 (fun q3 H hP hD hS => ?_)
  have hP : va_P E.1 vwCl [(a0, .inr (5, [.ref q1, .ref q2, .null, .int 0, .null, .null, .null, .null, .int 0, .int 0, .int 0, .int 0, .int 0, .int 0, .null, .null, .null])), (q1, .inl (pv_I E, 31, .inl (fun _ => 0))), (q2, .inl (pv_I E, 31, .inl (fun _ => 0))), (q3, .inl (pv_I E, 31, .inl (fun _ => 0)))] H := hP
  have hD : va_D A [(a0, .inr (5, [.ref q1, .ref q2, .null, .int 0, .null, .null, .null, .null, .int 0, .int 0, .int 0, .int 0, .int 0, .int 0, .null, .null, .null])), (q1, .inl (pv_I E, 31, .inl (fun _ => 0))), (q2, .inl (pv_I E, 31, .inl (fun _ => 0))), (q3, .inl (pv_I E, 31, .inl (fun _ => 0)))] := hD
  refine va_putF (pc := 25) (D := E.1) (ci := 5) (v := .ref q3) (ty := .array .int) (C := RX7) (T := TX7) (N := 17) hx hb hts i_RX7 tyX7 tyX7_ok nmX7 hown hK hP hD hS 0 rfl rfl 2 (Nat.le_of_ble_eq_true rfl) fl_16 (fun _ h9 => h9) rfl hin rfl (tyX7_ok 2 (Nat.le_of_ble_eq_true rfl)) rfl rfl (Nat.le_of_ble_eq_true rfl) dX7_init_25 (fun H locs hP hD hS => ?_)
  have hP : va_P E.1 vwCl [(a0, .inr (5, [.ref q1, .ref q2, .ref q3, .int 0, .null, .null, .null, .null, .int 0, .int 0, .int 0, .int 0, .int 0, .int 0, .null, .null, .null])), (q1, .inl (pv_I E, 31, .inl (fun _ => 0))), (q2, .inl (pv_I E, 31, .inl (fun _ => 0))), (q3, .inl (pv_I E, 31, .inl (fun _ => 0)))] H := hP
  have hD : va_D A [(a0, .inr (5, [.ref q1, .ref q2, .ref q3, .int 0, .null, .null, .null, .null, .int 0, .int 0, .int 0, .int 0, .int 0, .int 0, .null, .null, .null])), (q1, .inl (pv_I E, 31, .inl (fun _ => 0))), (q2, .inl (pv_I E, 31, .inl (fun _ => 0))), (q3, .inl (pv_I E, 31, .inl (fun _ => 0)))] := hD
  refine lv_aload_n (pc := 28) hx hb dX7_init_28 rfl (lv_at hl 0 rfl) ?_
  refine lv_bipush (pc := 29) (v := 7) hx hb dX7_init_29 (by decide) ?_
  refine pv_newa (pc := 31) (atype := .int) hx hb ar_int rfl hK hP hD hS hA 0 rfl (pv_raI hK) (a0 := (7, .inl (fun _ => 0))) (fun _ => rfl) (by decide) (by decide : (7 : Int32).toNatClampNeg = 7) (Nat.le_of_ble_eq_true rfl) (Nat.le_of_ble_eq_true rfl) (Nat.le_of_ble_eq_true rfl) dX7_init_31 (fun q4 H hP hD hS => ?_)
  have hP : va_P E.1 vwCl [(a0, .inr (5, [.ref q1, .ref q2, .ref q3, .int 0, .null, .null, .null, .null, .int 0, .int 0, .int 0, .int 0, .int 0, .int 0, .null, .null, .null])), (q1, .inl (pv_I E, 31, .inl (fun _ => 0))), (q2, .inl (pv_I E, 31, .inl (fun _ => 0))), (q3, .inl (pv_I E, 31, .inl (fun _ => 0))), (q4, .inl (pv_I E, 7, .inl (fun _ => 0)))] H := hP
  have hD : va_D A [(a0, .inr (5, [.ref q1, .ref q2, .ref q3, .int 0, .null, .null, .null, .null, .int 0, .int 0, .int 0, .int 0, .int 0, .int 0, .null, .null, .null])), (q1, .inl (pv_I E, 31, .inl (fun _ => 0))), (q2, .inl (pv_I E, 31, .inl (fun _ => 0))), (q3, .inl (pv_I E, 31, .inl (fun _ => 0))), (q4, .inl (pv_I E, 7, .inl (fun _ => 0)))] := hD
  refine va_putF (pc := 33) (D := E.1) (ci := 5) (v := .ref q4) (ty := .array .int) (C := RX7) (T := TX7) (N := 17) hx hb hts i_RX7 tyX7 tyX7_ok nmX7 hown hK hP hD hS 0 rfl rfl 4 (Nat.le_of_ble_eq_true rfl) fl_19 (fun _ h9 => h9) rfl hin rfl (tyX7_ok 4 (Nat.le_of_ble_eq_true rfl)) rfl rfl (Nat.le_of_ble_eq_true rfl) dX7_init_33 (fun H locs hP hD hS => ?_)
  have hP : va_P E.1 vwCl [(a0, .inr (5, [.ref q1, .ref q2, .ref q3, .int 0, .ref q4, .null, .null, .null, .int 0, .int 0, .int 0, .int 0, .int 0, .int 0, .null, .null, .null])), (q1, .inl (pv_I E, 31, .inl (fun _ => 0))), (q2, .inl (pv_I E, 31, .inl (fun _ => 0))), (q3, .inl (pv_I E, 31, .inl (fun _ => 0))), (q4, .inl (pv_I E, 7, .inl (fun _ => 0)))] H := hP
  have hD : va_D A [(a0, .inr (5, [.ref q1, .ref q2, .ref q3, .int 0, .ref q4, .null, .null, .null, .int 0, .int 0, .int 0, .int 0, .int 0, .int 0, .null, .null, .null])), (q1, .inl (pv_I E, 31, .inl (fun _ => 0))), (q2, .inl (pv_I E, 31, .inl (fun _ => 0))), (q3, .inl (pv_I E, 31, .inl (fun _ => 0))), (q4, .inl (pv_I E, 7, .inl (fun _ => 0)))] := hD
  refine lv_aload_n (pc := 36) hx hb dX7_init_36 rfl (lv_at hl 0 rfl) ?_
  refine lv_bipush (pc := 37) (v := 16) hx hb dX7_init_37 (by decide) ?_
  refine pv_newa (pc := 39) (atype := .int) hx hb ar_int rfl hK hP hD hS hA 0 rfl (pv_raI hK) (a0 := (16, .inl (fun _ => 0))) (fun _ => rfl) (by decide) (by decide : (16 : Int32).toNatClampNeg = 16) (Nat.le_of_ble_eq_true rfl) (Nat.le_of_ble_eq_true rfl) (Nat.le_of_ble_eq_true rfl) dX7_init_39 (fun q5 H hP hD hS => ?_)
  have hP : va_P E.1 vwCl [(a0, .inr (5, [.ref q1, .ref q2, .ref q3, .int 0, .ref q4, .null, .null, .null, .int 0, .int 0, .int 0, .int 0, .int 0, .int 0, .null, .null, .null])), (q1, .inl (pv_I E, 31, .inl (fun _ => 0))), (q2, .inl (pv_I E, 31, .inl (fun _ => 0))), (q3, .inl (pv_I E, 31, .inl (fun _ => 0))), (q4, .inl (pv_I E, 7, .inl (fun _ => 0))), (q5, .inl (pv_I E, 16, .inl (fun _ => 0)))] H := hP
  have hD : va_D A [(a0, .inr (5, [.ref q1, .ref q2, .ref q3, .int 0, .ref q4, .null, .null, .null, .int 0, .int 0, .int 0, .int 0, .int 0, .int 0, .null, .null, .null])), (q1, .inl (pv_I E, 31, .inl (fun _ => 0))), (q2, .inl (pv_I E, 31, .inl (fun _ => 0))), (q3, .inl (pv_I E, 31, .inl (fun _ => 0))), (q4, .inl (pv_I E, 7, .inl (fun _ => 0))), (q5, .inl (pv_I E, 16, .inl (fun _ => 0)))] := hD
  refine va_putF (pc := 41) (D := E.1) (ci := 5) (v := .ref q5) (ty := .array .int) (C := RX7) (T := TX7) (N := 17) hx hb hts i_RX7 tyX7 tyX7_ok nmX7 hown hK hP hD hS 0 rfl rfl 5 (Nat.le_of_ble_eq_true rfl) fl_22 (fun _ h9 => h9) rfl hin rfl (tyX7_ok 5 (Nat.le_of_ble_eq_true rfl)) rfl rfl (Nat.le_of_ble_eq_true rfl) dX7_init_41 (fun H locs hP hD hS => ?_)
  have hP : va_P E.1 vwCl [(a0, .inr (5, [.ref q1, .ref q2, .ref q3, .int 0, .ref q4, .ref q5, .null, .null, .int 0, .int 0, .int 0, .int 0, .int 0, .int 0, .null, .null, .null])), (q1, .inl (pv_I E, 31, .inl (fun _ => 0))), (q2, .inl (pv_I E, 31, .inl (fun _ => 0))), (q3, .inl (pv_I E, 31, .inl (fun _ => 0))), (q4, .inl (pv_I E, 7, .inl (fun _ => 0))), (q5, .inl (pv_I E, 16, .inl (fun _ => 0)))] H := hP
  have hD : va_D A [(a0, .inr (5, [.ref q1, .ref q2, .ref q3, .int 0, .ref q4, .ref q5, .null, .null, .int 0, .int 0, .int 0, .int 0, .int 0, .int 0, .null, .null, .null])), (q1, .inl (pv_I E, 31, .inl (fun _ => 0))), (q2, .inl (pv_I E, 31, .inl (fun _ => 0))), (q3, .inl (pv_I E, 31, .inl (fun _ => 0))), (q4, .inl (pv_I E, 7, .inl (fun _ => 0))), (q5, .inl (pv_I E, 16, .inl (fun _ => 0)))] := hD
  refine lv_aload_n (pc := 44) hx hb dX7_init_44 rfl (lv_at hl 0 rfl) ?_
  refine lv_iconst (pc := 45) (v := 2) hx hb dX7_init_45 (by decide) ?_
  refine pv_newa (pc := 46) (atype := .int) hx hb ar_int rfl hK hP hD hS hA 0 rfl (pv_raI hK) (a0 := (2, .inl (fun _ => 0))) (fun _ => rfl) (by decide) (by decide : (2 : Int32).toNatClampNeg = 2) (Nat.le_of_ble_eq_true rfl) (Nat.le_of_ble_eq_true rfl) (Nat.le_of_ble_eq_true rfl) dX7_init_46 (fun q6 H hP hD hS => ?_)
  have hP : va_P E.1 vwCl [(a0, .inr (5, [.ref q1, .ref q2, .ref q3, .int 0, .ref q4, .ref q5, .null, .null, .int 0, .int 0, .int 0, .int 0, .int 0, .int 0, .null, .null, .null])), (q1, .inl (pv_I E, 31, .inl (fun _ => 0))), (q2, .inl (pv_I E, 31, .inl (fun _ => 0))), (q3, .inl (pv_I E, 31, .inl (fun _ => 0))), (q4, .inl (pv_I E, 7, .inl (fun _ => 0))), (q5, .inl (pv_I E, 16, .inl (fun _ => 0))), (q6, .inl (pv_I E, 2, .inl (fun _ => 0)))] H := hP
  have hD : va_D A [(a0, .inr (5, [.ref q1, .ref q2, .ref q3, .int 0, .ref q4, .ref q5, .null, .null, .int 0, .int 0, .int 0, .int 0, .int 0, .int 0, .null, .null, .null])), (q1, .inl (pv_I E, 31, .inl (fun _ => 0))), (q2, .inl (pv_I E, 31, .inl (fun _ => 0))), (q3, .inl (pv_I E, 31, .inl (fun _ => 0))), (q4, .inl (pv_I E, 7, .inl (fun _ => 0))), (q5, .inl (pv_I E, 16, .inl (fun _ => 0))), (q6, .inl (pv_I E, 2, .inl (fun _ => 0)))] := hD
  refine va_putF (pc := 48) (D := E.1) (ci := 5) (v := .ref q6) (ty := .array .int) (C := RX7) (T := TX7) (N := 17) hx hb hts i_RX7 tyX7 tyX7_ok nmX7 hown hK hP hD hS 0 rfl rfl 6 (Nat.le_of_ble_eq_true rfl) fl_25 (fun _ h9 => h9) rfl hin rfl (tyX7_ok 6 (Nat.le_of_ble_eq_true rfl)) rfl rfl (Nat.le_of_ble_eq_true rfl) dX7_init_48 (fun H locs hP hD hS => ?_)
  have hP : va_P E.1 vwCl [(a0, .inr (5, [.ref q1, .ref q2, .ref q3, .int 0, .ref q4, .ref q5, .ref q6, .null, .int 0, .int 0, .int 0, .int 0, .int 0, .int 0, .null, .null, .null])), (q1, .inl (pv_I E, 31, .inl (fun _ => 0))), (q2, .inl (pv_I E, 31, .inl (fun _ => 0))), (q3, .inl (pv_I E, 31, .inl (fun _ => 0))), (q4, .inl (pv_I E, 7, .inl (fun _ => 0))), (q5, .inl (pv_I E, 16, .inl (fun _ => 0))), (q6, .inl (pv_I E, 2, .inl (fun _ => 0)))] H := hP
  have hD : va_D A [(a0, .inr (5, [.ref q1, .ref q2, .ref q3, .int 0, .ref q4, .ref q5, .ref q6, .null, .int 0, .int 0, .int 0, .int 0, .int 0, .int 0, .null, .null, .null])), (q1, .inl (pv_I E, 31, .inl (fun _ => 0))), (q2, .inl (pv_I E, 31, .inl (fun _ => 0))), (q3, .inl (pv_I E, 31, .inl (fun _ => 0))), (q4, .inl (pv_I E, 7, .inl (fun _ => 0))), (q5, .inl (pv_I E, 16, .inl (fun _ => 0))), (q6, .inl (pv_I E, 2, .inl (fun _ => 0)))] := hD
  refine lv_aload_n (pc := 51) hx hb dX7_init_51 rfl (lv_at hl 0 rfl) ?_
  refine lv_bipush (pc := 52) (v := 120) hx hb dX7_init_52 (by decide) ?_
  refine pv_newa (pc := 54) (atype := .int) hx hb ar_int rfl hK hP hD hS hA 0 rfl (pv_raI hK) (a0 := (120, .inl (fun _ => 0))) (fun _ => rfl) (by decide) (by decide : (120 : Int32).toNatClampNeg = 120) (Nat.le_of_ble_eq_true rfl) (Nat.le_of_ble_eq_true rfl) (Nat.le_of_ble_eq_true rfl) dX7_init_54 (fun q7 H hP hD hS => ?_)
  have hP : va_P E.1 vwCl [(a0, .inr (5, [.ref q1, .ref q2, .ref q3, .int 0, .ref q4, .ref q5, .ref q6, .null, .int 0, .int 0, .int 0, .int 0, .int 0, .int 0, .null, .null, .null])), (q1, .inl (pv_I E, 31, .inl (fun _ => 0))), (q2, .inl (pv_I E, 31, .inl (fun _ => 0))), (q3, .inl (pv_I E, 31, .inl (fun _ => 0))), (q4, .inl (pv_I E, 7, .inl (fun _ => 0))), (q5, .inl (pv_I E, 16, .inl (fun _ => 0))), (q6, .inl (pv_I E, 2, .inl (fun _ => 0))), (q7, .inl (pv_I E, 120, .inl (fun _ => 0)))] H := hP
  have hD : va_D A [(a0, .inr (5, [.ref q1, .ref q2, .ref q3, .int 0, .ref q4, .ref q5, .ref q6, .null, .int 0, .int 0, .int 0, .int 0, .int 0, .int 0, .null, .null, .null])), (q1, .inl (pv_I E, 31, .inl (fun _ => 0))), (q2, .inl (pv_I E, 31, .inl (fun _ => 0))), (q3, .inl (pv_I E, 31, .inl (fun _ => 0))), (q4, .inl (pv_I E, 7, .inl (fun _ => 0))), (q5, .inl (pv_I E, 16, .inl (fun _ => 0))), (q6, .inl (pv_I E, 2, .inl (fun _ => 0))), (q7, .inl (pv_I E, 120, .inl (fun _ => 0)))] := hD
  refine va_putF (pc := 56) (D := E.1) (ci := 5) (v := .ref q7) (ty := .array .int) (C := RX7) (T := TX7) (N := 17) hx hb hts i_RX7 tyX7 tyX7_ok nmX7 hown hK hP hD hS 0 rfl rfl 7 (Nat.le_of_ble_eq_true rfl) fl_28 (fun _ h9 => h9) rfl hin rfl (tyX7_ok 7 (Nat.le_of_ble_eq_true rfl)) rfl rfl (Nat.le_of_ble_eq_true rfl) dX7_init_56 (fun H locs hP hD hS => ?_)
  have hP : va_P E.1 vwCl [(a0, .inr (5, [.ref q1, .ref q2, .ref q3, .int 0, .ref q4, .ref q5, .ref q6, .ref q7, .int 0, .int 0, .int 0, .int 0, .int 0, .int 0, .null, .null, .null])), (q1, .inl (pv_I E, 31, .inl (fun _ => 0))), (q2, .inl (pv_I E, 31, .inl (fun _ => 0))), (q3, .inl (pv_I E, 31, .inl (fun _ => 0))), (q4, .inl (pv_I E, 7, .inl (fun _ => 0))), (q5, .inl (pv_I E, 16, .inl (fun _ => 0))), (q6, .inl (pv_I E, 2, .inl (fun _ => 0))), (q7, .inl (pv_I E, 120, .inl (fun _ => 0)))] H := hP
  have hD : va_D A [(a0, .inr (5, [.ref q1, .ref q2, .ref q3, .int 0, .ref q4, .ref q5, .ref q6, .ref q7, .int 0, .int 0, .int 0, .int 0, .int 0, .int 0, .null, .null, .null])), (q1, .inl (pv_I E, 31, .inl (fun _ => 0))), (q2, .inl (pv_I E, 31, .inl (fun _ => 0))), (q3, .inl (pv_I E, 31, .inl (fun _ => 0))), (q4, .inl (pv_I E, 7, .inl (fun _ => 0))), (q5, .inl (pv_I E, 16, .inl (fun _ => 0))), (q6, .inl (pv_I E, 2, .inl (fun _ => 0))), (q7, .inl (pv_I E, 120, .inl (fun _ => 0)))] := hD
  refine lv_aload_n (pc := 59) hx hb dX7_init_59 rfl (lv_at hl 0 rfl) ?_
  refine lv_iconst (pc := 60) (v := 4) hx hb dX7_init_60 (by decide) ?_
  refine pv_newa (pc := 61) (atype := .int) hx hb ar_int rfl hK hP hD hS hA 0 rfl (pv_raI hK) (a0 := (4, .inl (fun _ => 0))) (fun _ => rfl) (by decide) (by decide : (4 : Int32).toNatClampNeg = 4) (Nat.le_of_ble_eq_true rfl) (Nat.le_of_ble_eq_true rfl) (Nat.le_of_ble_eq_true rfl) dX7_init_61 (fun q8 H hP hD hS => ?_)
  have hP : va_P E.1 vwCl [(a0, .inr (5, [.ref q1, .ref q2, .ref q3, .int 0, .ref q4, .ref q5, .ref q6, .ref q7, .int 0, .int 0, .int 0, .int 0, .int 0, .int 0, .null, .null, .null])), (q1, .inl (pv_I E, 31, .inl (fun _ => 0))), (q2, .inl (pv_I E, 31, .inl (fun _ => 0))), (q3, .inl (pv_I E, 31, .inl (fun _ => 0))), (q4, .inl (pv_I E, 7, .inl (fun _ => 0))), (q5, .inl (pv_I E, 16, .inl (fun _ => 0))), (q6, .inl (pv_I E, 2, .inl (fun _ => 0))), (q7, .inl (pv_I E, 120, .inl (fun _ => 0))), (q8, .inl (pv_I E, 4, .inl (fun _ => 0)))] H := hP
  have hD : va_D A [(a0, .inr (5, [.ref q1, .ref q2, .ref q3, .int 0, .ref q4, .ref q5, .ref q6, .ref q7, .int 0, .int 0, .int 0, .int 0, .int 0, .int 0, .null, .null, .null])), (q1, .inl (pv_I E, 31, .inl (fun _ => 0))), (q2, .inl (pv_I E, 31, .inl (fun _ => 0))), (q3, .inl (pv_I E, 31, .inl (fun _ => 0))), (q4, .inl (pv_I E, 7, .inl (fun _ => 0))), (q5, .inl (pv_I E, 16, .inl (fun _ => 0))), (q6, .inl (pv_I E, 2, .inl (fun _ => 0))), (q7, .inl (pv_I E, 120, .inl (fun _ => 0))), (q8, .inl (pv_I E, 4, .inl (fun _ => 0)))] := hD
  refine va_putF (pc := 63) (D := E.1) (ci := 5) (v := .ref q8) (ty := .array .int) (C := RX7) (T := TX7) (N := 17) hx hb hts i_RX7 tyX7 tyX7_ok nmX7 hown hK hP hD hS 0 rfl rfl 14 (Nat.le_of_ble_eq_true rfl) fl_31 (fun _ h9 => h9) rfl hin rfl (tyX7_ok 14 (Nat.le_of_ble_eq_true rfl)) rfl rfl (Nat.le_of_ble_eq_true rfl) dX7_init_63 (fun H locs hP hD hS => ?_)
  have hP : va_P E.1 vwCl [(a0, .inr (5, [.ref q1, .ref q2, .ref q3, .int 0, .ref q4, .ref q5, .ref q6, .ref q7, .int 0, .int 0, .int 0, .int 0, .int 0, .int 0, .ref q8, .null, .null])), (q1, .inl (pv_I E, 31, .inl (fun _ => 0))), (q2, .inl (pv_I E, 31, .inl (fun _ => 0))), (q3, .inl (pv_I E, 31, .inl (fun _ => 0))), (q4, .inl (pv_I E, 7, .inl (fun _ => 0))), (q5, .inl (pv_I E, 16, .inl (fun _ => 0))), (q6, .inl (pv_I E, 2, .inl (fun _ => 0))), (q7, .inl (pv_I E, 120, .inl (fun _ => 0))), (q8, .inl (pv_I E, 4, .inl (fun _ => 0)))] H := hP
  have hD : va_D A [(a0, .inr (5, [.ref q1, .ref q2, .ref q3, .int 0, .ref q4, .ref q5, .ref q6, .ref q7, .int 0, .int 0, .int 0, .int 0, .int 0, .int 0, .ref q8, .null, .null])), (q1, .inl (pv_I E, 31, .inl (fun _ => 0))), (q2, .inl (pv_I E, 31, .inl (fun _ => 0))), (q3, .inl (pv_I E, 31, .inl (fun _ => 0))), (q4, .inl (pv_I E, 7, .inl (fun _ => 0))), (q5, .inl (pv_I E, 16, .inl (fun _ => 0))), (q6, .inl (pv_I E, 2, .inl (fun _ => 0))), (q7, .inl (pv_I E, 120, .inl (fun _ => 0))), (q8, .inl (pv_I E, 4, .inl (fun _ => 0)))] := hD
  refine lv_aload_n (pc := 66) hx hb dX7_init_66 rfl (lv_at hl 0 rfl) ?_
  refine lv_iconst (pc := 67) (v := 4) hx hb dX7_init_67 (by decide) ?_
  refine pv_newa (pc := 68) (atype := .int) hx hb ar_int rfl hK hP hD hS hA 0 rfl (pv_raI hK) (a0 := (4, .inl (fun _ => 0))) (fun _ => rfl) (by decide) (by decide : (4 : Int32).toNatClampNeg = 4) (Nat.le_of_ble_eq_true rfl) (Nat.le_of_ble_eq_true rfl) (Nat.le_of_ble_eq_true rfl) dX7_init_68 (fun q9 H hP hD hS => ?_)
  have hP : va_P E.1 vwCl [(a0, .inr (5, [.ref q1, .ref q2, .ref q3, .int 0, .ref q4, .ref q5, .ref q6, .ref q7, .int 0, .int 0, .int 0, .int 0, .int 0, .int 0, .ref q8, .null, .null])), (q1, .inl (pv_I E, 31, .inl (fun _ => 0))), (q2, .inl (pv_I E, 31, .inl (fun _ => 0))), (q3, .inl (pv_I E, 31, .inl (fun _ => 0))), (q4, .inl (pv_I E, 7, .inl (fun _ => 0))), (q5, .inl (pv_I E, 16, .inl (fun _ => 0))), (q6, .inl (pv_I E, 2, .inl (fun _ => 0))), (q7, .inl (pv_I E, 120, .inl (fun _ => 0))), (q8, .inl (pv_I E, 4, .inl (fun _ => 0))), (q9, .inl (pv_I E, 4, .inl (fun _ => 0)))] H := hP
  have hD : va_D A [(a0, .inr (5, [.ref q1, .ref q2, .ref q3, .int 0, .ref q4, .ref q5, .ref q6, .ref q7, .int 0, .int 0, .int 0, .int 0, .int 0, .int 0, .ref q8, .null, .null])), (q1, .inl (pv_I E, 31, .inl (fun _ => 0))), (q2, .inl (pv_I E, 31, .inl (fun _ => 0))), (q3, .inl (pv_I E, 31, .inl (fun _ => 0))), (q4, .inl (pv_I E, 7, .inl (fun _ => 0))), (q5, .inl (pv_I E, 16, .inl (fun _ => 0))), (q6, .inl (pv_I E, 2, .inl (fun _ => 0))), (q7, .inl (pv_I E, 120, .inl (fun _ => 0))), (q8, .inl (pv_I E, 4, .inl (fun _ => 0))), (q9, .inl (pv_I E, 4, .inl (fun _ => 0)))] := hD
  refine va_putF (pc := 70) (D := E.1) (ci := 5) (v := .ref q9) (ty := .array .int) (C := RX7) (T := TX7) (N := 17) hx hb hts i_RX7 tyX7 tyX7_ok nmX7 hown hK hP hD hS 0 rfl rfl 15 (Nat.le_of_ble_eq_true rfl) fl_34 (fun _ h9 => h9) rfl hin rfl (tyX7_ok 15 (Nat.le_of_ble_eq_true rfl)) rfl rfl (Nat.le_of_ble_eq_true rfl) dX7_init_70 (fun H locs hP hD hS => ?_)
  have hP : va_P E.1 vwCl [(a0, .inr (5, [.ref q1, .ref q2, .ref q3, .int 0, .ref q4, .ref q5, .ref q6, .ref q7, .int 0, .int 0, .int 0, .int 0, .int 0, .int 0, .ref q8, .ref q9, .null])), (q1, .inl (pv_I E, 31, .inl (fun _ => 0))), (q2, .inl (pv_I E, 31, .inl (fun _ => 0))), (q3, .inl (pv_I E, 31, .inl (fun _ => 0))), (q4, .inl (pv_I E, 7, .inl (fun _ => 0))), (q5, .inl (pv_I E, 16, .inl (fun _ => 0))), (q6, .inl (pv_I E, 2, .inl (fun _ => 0))), (q7, .inl (pv_I E, 120, .inl (fun _ => 0))), (q8, .inl (pv_I E, 4, .inl (fun _ => 0))), (q9, .inl (pv_I E, 4, .inl (fun _ => 0)))] H := hP
  have hD : va_D A [(a0, .inr (5, [.ref q1, .ref q2, .ref q3, .int 0, .ref q4, .ref q5, .ref q6, .ref q7, .int 0, .int 0, .int 0, .int 0, .int 0, .int 0, .ref q8, .ref q9, .null])), (q1, .inl (pv_I E, 31, .inl (fun _ => 0))), (q2, .inl (pv_I E, 31, .inl (fun _ => 0))), (q3, .inl (pv_I E, 31, .inl (fun _ => 0))), (q4, .inl (pv_I E, 7, .inl (fun _ => 0))), (q5, .inl (pv_I E, 16, .inl (fun _ => 0))), (q6, .inl (pv_I E, 2, .inl (fun _ => 0))), (q7, .inl (pv_I E, 120, .inl (fun _ => 0))), (q8, .inl (pv_I E, 4, .inl (fun _ => 0))), (q9, .inl (pv_I E, 4, .inl (fun _ => 0)))] := hD
  refine lv_aload_n (pc := 73) hx hb dX7_init_73 rfl (lv_at hl 0 rfl) ?_
  refine lv_sipush (pc := 74) (v := 160) hx hb dX7_init_74 (by decide) ?_
  refine pv_newa (pc := 77) (atype := .long) hx hb ar_long rfl hK hP hD hS hA 1 rfl (pv_raJ hK) (a0 := (160, .inr (.inl (fun _ => 0)))) (fun _ => rfl) (by decide) (by decide : (160 : Int32).toNatClampNeg = 160) (Nat.le_of_ble_eq_true rfl) (Nat.le_of_ble_eq_true rfl) (Nat.le_of_ble_eq_true rfl) dX7_init_77 (fun q10 H hP hD hS => ?_)
  have hP : va_P E.1 vwCl [(a0, .inr (5, [.ref q1, .ref q2, .ref q3, .int 0, .ref q4, .ref q5, .ref q6, .ref q7, .int 0, .int 0, .int 0, .int 0, .int 0, .int 0, .ref q8, .ref q9, .null])), (q1, .inl (pv_I E, 31, .inl (fun _ => 0))), (q2, .inl (pv_I E, 31, .inl (fun _ => 0))), (q3, .inl (pv_I E, 31, .inl (fun _ => 0))), (q4, .inl (pv_I E, 7, .inl (fun _ => 0))), (q5, .inl (pv_I E, 16, .inl (fun _ => 0))), (q6, .inl (pv_I E, 2, .inl (fun _ => 0))), (q7, .inl (pv_I E, 120, .inl (fun _ => 0))), (q8, .inl (pv_I E, 4, .inl (fun _ => 0))), (q9, .inl (pv_I E, 4, .inl (fun _ => 0))), (q10, .inl (pv_J E, 160, .inr (.inl (fun _ => 0))))] H := hP
  have hD : va_D A [(a0, .inr (5, [.ref q1, .ref q2, .ref q3, .int 0, .ref q4, .ref q5, .ref q6, .ref q7, .int 0, .int 0, .int 0, .int 0, .int 0, .int 0, .ref q8, .ref q9, .null])), (q1, .inl (pv_I E, 31, .inl (fun _ => 0))), (q2, .inl (pv_I E, 31, .inl (fun _ => 0))), (q3, .inl (pv_I E, 31, .inl (fun _ => 0))), (q4, .inl (pv_I E, 7, .inl (fun _ => 0))), (q5, .inl (pv_I E, 16, .inl (fun _ => 0))), (q6, .inl (pv_I E, 2, .inl (fun _ => 0))), (q7, .inl (pv_I E, 120, .inl (fun _ => 0))), (q8, .inl (pv_I E, 4, .inl (fun _ => 0))), (q9, .inl (pv_I E, 4, .inl (fun _ => 0))), (q10, .inl (pv_J E, 160, .inr (.inl (fun _ => 0))))] := hD
  refine va_putF (pc := 79) (D := E.1) (ci := 5) (v := .ref q10) (ty := .array .long) (C := RX7) (T := TX7) (N := 17) hx hb hts i_RX7 tyX7 tyX7_ok nmX7 hown hK hP hD hS 0 rfl rfl 16 (Nat.le_of_ble_eq_true rfl) fl_37 (fun _ h9 => h9) rfl hin rfl (tyX7_ok 16 (Nat.le_of_ble_eq_true rfl)) rfl rfl (Nat.le_of_ble_eq_true rfl) dX7_init_79 (fun H locs hP hD hS => ?_)
  have hP : va_P E.1 vwCl [(a0, .inr (5, [.ref q1, .ref q2, .ref q3, .int 0, .ref q4, .ref q5, .ref q6, .ref q7, .int 0, .int 0, .int 0, .int 0, .int 0, .int 0, .ref q8, .ref q9, .ref q10])), (q1, .inl (pv_I E, 31, .inl (fun _ => 0))), (q2, .inl (pv_I E, 31, .inl (fun _ => 0))), (q3, .inl (pv_I E, 31, .inl (fun _ => 0))), (q4, .inl (pv_I E, 7, .inl (fun _ => 0))), (q5, .inl (pv_I E, 16, .inl (fun _ => 0))), (q6, .inl (pv_I E, 2, .inl (fun _ => 0))), (q7, .inl (pv_I E, 120, .inl (fun _ => 0))), (q8, .inl (pv_I E, 4, .inl (fun _ => 0))), (q9, .inl (pv_I E, 4, .inl (fun _ => 0))), (q10, .inl (pv_J E, 160, .inr (.inl (fun _ => 0))))] H := hP
  have hD : va_D A [(a0, .inr (5, [.ref q1, .ref q2, .ref q3, .int 0, .ref q4, .ref q5, .ref q6, .ref q7, .int 0, .int 0, .int 0, .int 0, .int 0, .int 0, .ref q8, .ref q9, .ref q10])), (q1, .inl (pv_I E, 31, .inl (fun _ => 0))), (q2, .inl (pv_I E, 31, .inl (fun _ => 0))), (q3, .inl (pv_I E, 31, .inl (fun _ => 0))), (q4, .inl (pv_I E, 7, .inl (fun _ => 0))), (q5, .inl (pv_I E, 16, .inl (fun _ => 0))), (q6, .inl (pv_I E, 2, .inl (fun _ => 0))), (q7, .inl (pv_I E, 120, .inl (fun _ => 0))), (q8, .inl (pv_I E, 4, .inl (fun _ => 0))), (q9, .inl (pv_I E, 4, .inl (fun _ => 0))), (q10, .inl (pv_J E, 160, .inr (.inl (fun _ => 0))))] := hD
  refine lv_aload_n (pc := 82) hx hb dX7_init_82 rfl (lv_at hl 0 rfl) ?_
  refine va_get (pc := 83) (D := E.1) (ci := 5) (v := .ref q1) (C := RX7) (T := TX7) (N := 17) hx hb hts i_RX7 hown hK hP 0 rfl rfl 0 (Nat.le_of_ble_eq_true rfl) fl_9 (fun _ h9 => h9) rfl dX7_init_83 ?_
  refine lv_iconst (pc := 86) (v := 1) hx hb dX7_init_86 (by decide) ?_
  refine lv_iconst (pc := 87) (v := 5) hx hb dX7_init_87 (by decide) ?_
  refine va_iast (pc := 88) (D := E.1) hx hb hK hP hD hS 1 0 rfl rfl (by decide : ¬ ((1 : Int32) < 0 ∨ 31 ≤ (1 : Int32).toNatClampNeg)) dX7_init_88 (fun H locs hP hD hS => ?_)
  have hP : va_P E.1 vwCl [(a0, .inr (5, [.ref q1, .ref q2, .ref q3, .int 0, .ref q4, .ref q5, .ref q6, .ref q7, .int 0, .int 0, .int 0, .int 0, .int 0, .int 0, .ref q8, .ref q9, .ref q10])), (q1, .inl (pv_I E, 31, .inl (upd (fun _ => 0) 1 5))), (q2, .inl (pv_I E, 31, .inl (fun _ => 0))), (q3, .inl (pv_I E, 31, .inl (fun _ => 0))), (q4, .inl (pv_I E, 7, .inl (fun _ => 0))), (q5, .inl (pv_I E, 16, .inl (fun _ => 0))), (q6, .inl (pv_I E, 2, .inl (fun _ => 0))), (q7, .inl (pv_I E, 120, .inl (fun _ => 0))), (q8, .inl (pv_I E, 4, .inl (fun _ => 0))), (q9, .inl (pv_I E, 4, .inl (fun _ => 0))), (q10, .inl (pv_J E, 160, .inr (.inl (fun _ => 0))))] H := hP
  have hD : va_D A [(a0, .inr (5, [.ref q1, .ref q2, .ref q3, .int 0, .ref q4, .ref q5, .ref q6, .ref q7, .int 0, .int 0, .int 0, .int 0, .int 0, .int 0, .ref q8, .ref q9, .ref q10])), (q1, .inl (pv_I E, 31, .inl (upd (fun _ => 0) 1 5))), (q2, .inl (pv_I E, 31, .inl (fun _ => 0))), (q3, .inl (pv_I E, 31, .inl (fun _ => 0))), (q4, .inl (pv_I E, 7, .inl (fun _ => 0))), (q5, .inl (pv_I E, 16, .inl (fun _ => 0))), (q6, .inl (pv_I E, 2, .inl (fun _ => 0))), (q7, .inl (pv_I E, 120, .inl (fun _ => 0))), (q8, .inl (pv_I E, 4, .inl (fun _ => 0))), (q9, .inl (pv_I E, 4, .inl (fun _ => 0))), (q10, .inl (pv_J E, 160, .inr (.inl (fun _ => 0))))] := hD
  refine lv_iconst (pc := 89) (v := 0) hx hb dX7_init_89 (by decide) ?_
  refine lv_istore_n (pc := 90) (lv' := [(1, .int 0), (0, .ref a0)]) hx hb dX7_init_90 rfl hl (Nat.le_of_ble_eq_true rfl) rfl (fun ls hl => ?_)
  refine lv_iload_n (pc := 91) hx hb dX7_init_91 rfl (lv_at hl 0 rfl) ?_
  refine lv_iconst (pc := 92) (v := 2) hx hb dX7_init_92 (by decide) ?_
  refine lv_icmp_ge (pc := 93) (tgt := 121) hx hb dX7_init_93 (by decide) (fun c9 => absurd c9 (by decide)) (fun _ => ?_)
  refine lv_aload_n (pc := 96) hx hb dX7_init_96 rfl (lv_at hl 1 rfl) ?_
  refine va_get (pc := 97) (D := E.1) (ci := 5) (v := .ref q1) (C := RX7) (T := TX7) (N := 17) hx hb hts i_RX7 hown hK hP 0 rfl rfl 0 (Nat.le_of_ble_eq_true rfl) fl_9 (fun _ h9 => h9) rfl dX7_init_97 ?_
  refine lv_iconst (pc := 100) (v := 3) hx hb dX7_init_100 (by decide) ?_
  refine lv_iload_n (pc := 101) hx hb dX7_init_101 rfl (lv_at hl 0 rfl) ?_
  refine lv_iadd (pc := 102) hx hb dX7_init_102 ?_
  refine W.eq (g2 := F0 m 103 ls [.int 3, .ref q1]) (by rw [show ((3 : Int32) + 0) = 3 from by decide]) ?_
  refine lv_iconst (pc := 103) (v := (-1)) hx hb dX7_init_103 (by decide) ?_
  refine va_iast (pc := 104) (D := E.1) hx hb hK hP hD hS 1 0 rfl rfl (by decide : ¬ ((3 : Int32) < 0 ∨ 31 ≤ (3 : Int32).toNatClampNeg)) dX7_init_104 (fun H locs hP hD hS => ?_)
  have hP : va_P E.1 vwCl [(a0, .inr (5, [.ref q1, .ref q2, .ref q3, .int 0, .ref q4, .ref q5, .ref q6, .ref q7, .int 0, .int 0, .int 0, .int 0, .int 0, .int 0, .ref q8, .ref q9, .ref q10])), (q1, .inl (pv_I E, 31, .inl (upd (upd (fun _ => 0) 1 5) 3 (-1)))), (q2, .inl (pv_I E, 31, .inl (fun _ => 0))), (q3, .inl (pv_I E, 31, .inl (fun _ => 0))), (q4, .inl (pv_I E, 7, .inl (fun _ => 0))), (q5, .inl (pv_I E, 16, .inl (fun _ => 0))), (q6, .inl (pv_I E, 2, .inl (fun _ => 0))), (q7, .inl (pv_I E, 120, .inl (fun _ => 0))), (q8, .inl (pv_I E, 4, .inl (fun _ => 0))), (q9, .inl (pv_I E, 4, .inl (fun _ => 0))), (q10, .inl (pv_J E, 160, .inr (.inl (fun _ => 0))))] H := hP
  have hD : va_D A [(a0, .inr (5, [.ref q1, .ref q2, .ref q3, .int 0, .ref q4, .ref q5, .ref q6, .ref q7, .int 0, .int 0, .int 0, .int 0, .int 0, .int 0, .ref q8, .ref q9, .ref q10])), (q1, .inl (pv_I E, 31, .inl (upd (upd (fun _ => 0) 1 5) 3 (-1)))), (q2, .inl (pv_I E, 31, .inl (fun _ => 0))), (q3, .inl (pv_I E, 31, .inl (fun _ => 0))), (q4, .inl (pv_I E, 7, .inl (fun _ => 0))), (q5, .inl (pv_I E, 16, .inl (fun _ => 0))), (q6, .inl (pv_I E, 2, .inl (fun _ => 0))), (q7, .inl (pv_I E, 120, .inl (fun _ => 0))), (q8, .inl (pv_I E, 4, .inl (fun _ => 0))), (q9, .inl (pv_I E, 4, .inl (fun _ => 0))), (q10, .inl (pv_J E, 160, .inr (.inl (fun _ => 0))))] := hD
  refine lv_aload_n (pc := 105) hx hb dX7_init_105 rfl (lv_at hl 1 rfl) ?_
  refine va_get (pc := 106) (D := E.1) (ci := 5) (v := .ref q1) (C := RX7) (T := TX7) (N := 17) hx hb hts i_RX7 hown hK hP 0 rfl rfl 0 (Nat.le_of_ble_eq_true rfl) fl_9 (fun _ h9 => h9) rfl dX7_init_106 ?_
  refine lv_iconst (pc := 109) (v := 5) hx hb dX7_init_109 (by decide) ?_
  refine lv_iload_n (pc := 110) hx hb dX7_init_110 rfl (lv_at hl 0 rfl) ?_
  refine lv_iadd (pc := 111) hx hb dX7_init_111 ?_
  refine W.eq (g2 := F0 m 112 ls [.int 5, .ref q1]) (by rw [show ((5 : Int32) + 0) = 5 from by decide]) ?_
  refine lv_bipush (pc := 112) (v := 50) hx hb dX7_init_112 (by decide) ?_
  refine va_iast (pc := 114) (D := E.1) hx hb hK hP hD hS 1 0 rfl rfl (by decide : ¬ ((5 : Int32) < 0 ∨ 31 ≤ (5 : Int32).toNatClampNeg)) dX7_init_114 (fun H locs hP hD hS => ?_)
  have hP : va_P E.1 vwCl [(a0, .inr (5, [.ref q1, .ref q2, .ref q3, .int 0, .ref q4, .ref q5, .ref q6, .ref q7, .int 0, .int 0, .int 0, .int 0, .int 0, .int 0, .ref q8, .ref q9, .ref q10])), (q1, .inl (pv_I E, 31, .inl (upd (upd (upd (fun _ => 0) 1 5) 3 (-1)) 5 50))), (q2, .inl (pv_I E, 31, .inl (fun _ => 0))), (q3, .inl (pv_I E, 31, .inl (fun _ => 0))), (q4, .inl (pv_I E, 7, .inl (fun _ => 0))), (q5, .inl (pv_I E, 16, .inl (fun _ => 0))), (q6, .inl (pv_I E, 2, .inl (fun _ => 0))), (q7, .inl (pv_I E, 120, .inl (fun _ => 0))), (q8, .inl (pv_I E, 4, .inl (fun _ => 0))), (q9, .inl (pv_I E, 4, .inl (fun _ => 0))), (q10, .inl (pv_J E, 160, .inr (.inl (fun _ => 0))))] H := hP
  have hD : va_D A [(a0, .inr (5, [.ref q1, .ref q2, .ref q3, .int 0, .ref q4, .ref q5, .ref q6, .ref q7, .int 0, .int 0, .int 0, .int 0, .int 0, .int 0, .ref q8, .ref q9, .ref q10])), (q1, .inl (pv_I E, 31, .inl (upd (upd (upd (fun _ => 0) 1 5) 3 (-1)) 5 50))), (q2, .inl (pv_I E, 31, .inl (fun _ => 0))), (q3, .inl (pv_I E, 31, .inl (fun _ => 0))), (q4, .inl (pv_I E, 7, .inl (fun _ => 0))), (q5, .inl (pv_I E, 16, .inl (fun _ => 0))), (q6, .inl (pv_I E, 2, .inl (fun _ => 0))), (q7, .inl (pv_I E, 120, .inl (fun _ => 0))), (q8, .inl (pv_I E, 4, .inl (fun _ => 0))), (q9, .inl (pv_I E, 4, .inl (fun _ => 0))), (q10, .inl (pv_J E, 160, .inr (.inl (fun _ => 0))))] := hD
  refine lv_iinc (pc := 115) (v := 1) (lv' := [(1, .int 1), (0, .ref a0)]) hx hb dX7_init_115 hl (k := 0) rfl (by decide) (Nat.le_of_ble_eq_true rfl) rfl (fun ls hl => ?_)
  refine lv_goto (pc := 118) (tgt := 91) hx hb dX7_init_118 (by decide) ?_
  refine lv_iload_n (pc := 91) hx hb dX7_init_91 rfl (lv_at hl 0 rfl) ?_
  refine lv_iconst (pc := 92) (v := 2) hx hb dX7_init_92 (by decide) ?_
  refine lv_icmp_ge (pc := 93) (tgt := 121) hx hb dX7_init_93 (by decide) (fun c9 => absurd c9 (by decide)) (fun _ => ?_)
  refine lv_aload_n (pc := 96) hx hb dX7_init_96 rfl (lv_at hl 1 rfl) ?_
  refine va_get (pc := 97) (D := E.1) (ci := 5) (v := .ref q1) (C := RX7) (T := TX7) (N := 17) hx hb hts i_RX7 hown hK hP 0 rfl rfl 0 (Nat.le_of_ble_eq_true rfl) fl_9 (fun _ h9 => h9) rfl dX7_init_97 ?_
  refine lv_iconst (pc := 100) (v := 3) hx hb dX7_init_100 (by decide) ?_
  refine lv_iload_n (pc := 101) hx hb dX7_init_101 rfl (lv_at hl 0 rfl) ?_
  refine lv_iadd (pc := 102) hx hb dX7_init_102 ?_
  refine W.eq (g2 := F0 m 103 ls [.int 4, .ref q1]) (by rw [show ((3 : Int32) + 1) = 4 from by decide]) ?_
  refine lv_iconst (pc := 103) (v := (-1)) hx hb dX7_init_103 (by decide) ?_
  refine va_iast (pc := 104) (D := E.1) hx hb hK hP hD hS 1 0 rfl rfl (by decide : ¬ ((4 : Int32) < 0 ∨ 31 ≤ (4 : Int32).toNatClampNeg)) dX7_init_104 (fun H locs hP hD hS => ?_)
  have hP : va_P E.1 vwCl [(a0, .inr (5, [.ref q1, .ref q2, .ref q3, .int 0, .ref q4, .ref q5, .ref q6, .ref q7, .int 0, .int 0, .int 0, .int 0, .int 0, .int 0, .ref q8, .ref q9, .ref q10])), (q1, .inl (pv_I E, 31, .inl (upd (upd (upd (upd (fun _ => 0) 1 5) 3 (-1)) 5 50) 4 (-1)))), (q2, .inl (pv_I E, 31, .inl (fun _ => 0))), (q3, .inl (pv_I E, 31, .inl (fun _ => 0))), (q4, .inl (pv_I E, 7, .inl (fun _ => 0))), (q5, .inl (pv_I E, 16, .inl (fun _ => 0))), (q6, .inl (pv_I E, 2, .inl (fun _ => 0))), (q7, .inl (pv_I E, 120, .inl (fun _ => 0))), (q8, .inl (pv_I E, 4, .inl (fun _ => 0))), (q9, .inl (pv_I E, 4, .inl (fun _ => 0))), (q10, .inl (pv_J E, 160, .inr (.inl (fun _ => 0))))] H := hP
  have hD : va_D A [(a0, .inr (5, [.ref q1, .ref q2, .ref q3, .int 0, .ref q4, .ref q5, .ref q6, .ref q7, .int 0, .int 0, .int 0, .int 0, .int 0, .int 0, .ref q8, .ref q9, .ref q10])), (q1, .inl (pv_I E, 31, .inl (upd (upd (upd (upd (fun _ => 0) 1 5) 3 (-1)) 5 50) 4 (-1)))), (q2, .inl (pv_I E, 31, .inl (fun _ => 0))), (q3, .inl (pv_I E, 31, .inl (fun _ => 0))), (q4, .inl (pv_I E, 7, .inl (fun _ => 0))), (q5, .inl (pv_I E, 16, .inl (fun _ => 0))), (q6, .inl (pv_I E, 2, .inl (fun _ => 0))), (q7, .inl (pv_I E, 120, .inl (fun _ => 0))), (q8, .inl (pv_I E, 4, .inl (fun _ => 0))), (q9, .inl (pv_I E, 4, .inl (fun _ => 0))), (q10, .inl (pv_J E, 160, .inr (.inl (fun _ => 0))))] := hD
  refine lv_aload_n (pc := 105) hx hb dX7_init_105 rfl (lv_at hl 1 rfl) ?_
  refine va_get (pc := 106) (D := E.1) (ci := 5) (v := .ref q1) (C := RX7) (T := TX7) (N := 17) hx hb hts i_RX7 hown hK hP 0 rfl rfl 0 (Nat.le_of_ble_eq_true rfl) fl_9 (fun _ h9 => h9) rfl dX7_init_106 ?_
  refine lv_iconst (pc := 109) (v := 5) hx hb dX7_init_109 (by decide) ?_
  refine lv_iload_n (pc := 110) hx hb dX7_init_110 rfl (lv_at hl 0 rfl) ?_
  refine lv_iadd (pc := 111) hx hb dX7_init_111 ?_
  refine W.eq (g2 := F0 m 112 ls [.int 6, .ref q1]) (by rw [show ((5 : Int32) + 1) = 6 from by decide]) ?_
  refine lv_bipush (pc := 112) (v := 50) hx hb dX7_init_112 (by decide) ?_
  refine va_iast (pc := 114) (D := E.1) hx hb hK hP hD hS 1 0 rfl rfl (by decide : ¬ ((6 : Int32) < 0 ∨ 31 ≤ (6 : Int32).toNatClampNeg)) dX7_init_114 (fun H locs hP hD hS => ?_)
  have hP : va_P E.1 vwCl [(a0, .inr (5, [.ref q1, .ref q2, .ref q3, .int 0, .ref q4, .ref q5, .ref q6, .ref q7, .int 0, .int 0, .int 0, .int 0, .int 0, .int 0, .ref q8, .ref q9, .ref q10])), (q1, .inl (pv_I E, 31, .inl (upd (upd (upd (upd (upd (fun _ => 0) 1 5) 3 (-1)) 5 50) 4 (-1)) 6 50))), (q2, .inl (pv_I E, 31, .inl (fun _ => 0))), (q3, .inl (pv_I E, 31, .inl (fun _ => 0))), (q4, .inl (pv_I E, 7, .inl (fun _ => 0))), (q5, .inl (pv_I E, 16, .inl (fun _ => 0))), (q6, .inl (pv_I E, 2, .inl (fun _ => 0))), (q7, .inl (pv_I E, 120, .inl (fun _ => 0))), (q8, .inl (pv_I E, 4, .inl (fun _ => 0))), (q9, .inl (pv_I E, 4, .inl (fun _ => 0))), (q10, .inl (pv_J E, 160, .inr (.inl (fun _ => 0))))] H := hP
  have hD : va_D A [(a0, .inr (5, [.ref q1, .ref q2, .ref q3, .int 0, .ref q4, .ref q5, .ref q6, .ref q7, .int 0, .int 0, .int 0, .int 0, .int 0, .int 0, .ref q8, .ref q9, .ref q10])), (q1, .inl (pv_I E, 31, .inl (upd (upd (upd (upd (upd (fun _ => 0) 1 5) 3 (-1)) 5 50) 4 (-1)) 6 50))), (q2, .inl (pv_I E, 31, .inl (fun _ => 0))), (q3, .inl (pv_I E, 31, .inl (fun _ => 0))), (q4, .inl (pv_I E, 7, .inl (fun _ => 0))), (q5, .inl (pv_I E, 16, .inl (fun _ => 0))), (q6, .inl (pv_I E, 2, .inl (fun _ => 0))), (q7, .inl (pv_I E, 120, .inl (fun _ => 0))), (q8, .inl (pv_I E, 4, .inl (fun _ => 0))), (q9, .inl (pv_I E, 4, .inl (fun _ => 0))), (q10, .inl (pv_J E, 160, .inr (.inl (fun _ => 0))))] := hD
  refine lv_iinc (pc := 115) (v := 2) (lv' := [(1, .int 2), (0, .ref a0)]) hx hb dX7_init_115 hl (k := 0) rfl (by decide) (Nat.le_of_ble_eq_true rfl) rfl (fun ls hl => ?_)
  refine lv_goto (pc := 118) (tgt := 91) hx hb dX7_init_118 (by decide) ?_
  refine lv_iload_n (pc := 91) hx hb dX7_init_91 rfl (lv_at hl 0 rfl) ?_
  refine lv_iconst (pc := 92) (v := 2) hx hb dX7_init_92 (by decide) ?_
  refine lv_icmp_ge (pc := 93) (tgt := 121) hx hb dX7_init_93 (by decide) (fun _ => ?_) (fun c9 => absurd (by decide) c9)
  refine lv_iconst (pc := 121) (v := 0) hx hb dX7_init_121 (by decide) ?_
  refine lv_istore_n (pc := 122) (lv' := [(1, .int 0), (0, .ref a0)]) hx hb dX7_init_122 rfl hl (Nat.le_of_ble_eq_true rfl) rfl (fun ls hl => ?_)
  refine lv_iload_n (pc := 123) hx hb dX7_init_123 rfl (lv_at hl 0 rfl) ?_
  refine lv_bipush (pc := 124) (v := 8) hx hb dX7_init_124 (by decide) ?_
  refine lv_icmp_ge (pc := 126) (tgt := 145) hx hb dX7_init_126 (by decide) (fun c9 => absurd c9 (by decide)) (fun _ => ?_)
  refine lv_aload_n (pc := 129) hx hb dX7_init_129 rfl (lv_at hl 1 rfl) ?_
  refine va_get (pc := 130) (D := E.1) (ci := 5) (v := .ref q1) (C := RX7) (T := TX7) (N := 17) hx hb hts i_RX7 hown hK hP 0 rfl rfl 0 (Nat.le_of_ble_eq_true rfl) fl_9 (fun _ h9 => h9) rfl dX7_init_130 ?_
  refine lv_bipush (pc := 133) (v := 7) hx hb dX7_init_133 (by decide) ?_
  refine lv_iload_n (pc := 135) hx hb dX7_init_135 rfl (lv_at hl 0 rfl) ?_
  refine lv_iadd (pc := 136) hx hb dX7_init_136 ?_
  refine W.eq (g2 := F0 m 137 ls [.int 7, .ref q1]) (by rw [show ((7 : Int32) + 0) = 7 from by decide]) ?_
  refine lv_iconst (pc := 137) (v := (-1)) hx hb dX7_init_137 (by decide) ?_
  refine va_iast (pc := 138) (D := E.1) hx hb hK hP hD hS 1 0 rfl rfl (by decide : ¬ ((7 : Int32) < 0 ∨ 31 ≤ (7 : Int32).toNatClampNeg)) dX7_init_138 (fun H locs hP hD hS => ?_)
  have hP : va_P E.1 vwCl [(a0, .inr (5, [.ref q1, .ref q2, .ref q3, .int 0, .ref q4, .ref q5, .ref q6, .ref q7, .int 0, .int 0, .int 0, .int 0, .int 0, .int 0, .ref q8, .ref q9, .ref q10])), (q1, .inl (pv_I E, 31, .inl (upd (upd (upd (upd (upd (upd (fun _ => 0) 1 5) 3 (-1)) 5 50) 4 (-1)) 6 50) 7 (-1)))), (q2, .inl (pv_I E, 31, .inl (fun _ => 0))), (q3, .inl (pv_I E, 31, .inl (fun _ => 0))), (q4, .inl (pv_I E, 7, .inl (fun _ => 0))), (q5, .inl (pv_I E, 16, .inl (fun _ => 0))), (q6, .inl (pv_I E, 2, .inl (fun _ => 0))), (q7, .inl (pv_I E, 120, .inl (fun _ => 0))), (q8, .inl (pv_I E, 4, .inl (fun _ => 0))), (q9, .inl (pv_I E, 4, .inl (fun _ => 0))), (q10, .inl (pv_J E, 160, .inr (.inl (fun _ => 0))))] H := hP
  have hD : va_D A [(a0, .inr (5, [.ref q1, .ref q2, .ref q3, .int 0, .ref q4, .ref q5, .ref q6, .ref q7, .int 0, .int 0, .int 0, .int 0, .int 0, .int 0, .ref q8, .ref q9, .ref q10])), (q1, .inl (pv_I E, 31, .inl (upd (upd (upd (upd (upd (upd (fun _ => 0) 1 5) 3 (-1)) 5 50) 4 (-1)) 6 50) 7 (-1)))), (q2, .inl (pv_I E, 31, .inl (fun _ => 0))), (q3, .inl (pv_I E, 31, .inl (fun _ => 0))), (q4, .inl (pv_I E, 7, .inl (fun _ => 0))), (q5, .inl (pv_I E, 16, .inl (fun _ => 0))), (q6, .inl (pv_I E, 2, .inl (fun _ => 0))), (q7, .inl (pv_I E, 120, .inl (fun _ => 0))), (q8, .inl (pv_I E, 4, .inl (fun _ => 0))), (q9, .inl (pv_I E, 4, .inl (fun _ => 0))), (q10, .inl (pv_J E, 160, .inr (.inl (fun _ => 0))))] := hD
  refine lv_iinc (pc := 139) (v := 1) (lv' := [(1, .int 1), (0, .ref a0)]) hx hb dX7_init_139 hl (k := 0) rfl (by decide) (Nat.le_of_ble_eq_true rfl) rfl (fun ls hl => ?_)
  refine lv_goto (pc := 142) (tgt := 123) hx hb dX7_init_142 (by decide) ?_
  refine lv_iload_n (pc := 123) hx hb dX7_init_123 rfl (lv_at hl 0 rfl) ?_
  refine lv_bipush (pc := 124) (v := 8) hx hb dX7_init_124 (by decide) ?_
  refine lv_icmp_ge (pc := 126) (tgt := 145) hx hb dX7_init_126 (by decide) (fun c9 => absurd c9 (by decide)) (fun _ => ?_)
  refine lv_aload_n (pc := 129) hx hb dX7_init_129 rfl (lv_at hl 1 rfl) ?_
  refine va_get (pc := 130) (D := E.1) (ci := 5) (v := .ref q1) (C := RX7) (T := TX7) (N := 17) hx hb hts i_RX7 hown hK hP 0 rfl rfl 0 (Nat.le_of_ble_eq_true rfl) fl_9 (fun _ h9 => h9) rfl dX7_init_130 ?_
  refine lv_bipush (pc := 133) (v := 7) hx hb dX7_init_133 (by decide) ?_
  refine lv_iload_n (pc := 135) hx hb dX7_init_135 rfl (lv_at hl 0 rfl) ?_
  refine lv_iadd (pc := 136) hx hb dX7_init_136 ?_
  refine W.eq (g2 := F0 m 137 ls [.int 8, .ref q1]) (by rw [show ((7 : Int32) + 1) = 8 from by decide]) ?_
  refine lv_iconst (pc := 137) (v := (-1)) hx hb dX7_init_137 (by decide) ?_
  refine va_iast (pc := 138) (D := E.1) hx hb hK hP hD hS 1 0 rfl rfl (by decide : ¬ ((8 : Int32) < 0 ∨ 31 ≤ (8 : Int32).toNatClampNeg)) dX7_init_138 (fun H locs hP hD hS => ?_)
  have hP : va_P E.1 vwCl [(a0, .inr (5, [.ref q1, .ref q2, .ref q3, .int 0, .ref q4, .ref q5, .ref q6, .ref q7, .int 0, .int 0, .int 0, .int 0, .int 0, .int 0, .ref q8, .ref q9, .ref q10])), (q1, .inl (pv_I E, 31, .inl (upd (upd (upd (upd (upd (upd (upd (fun _ => 0) 1 5) 3 (-1)) 5 50) 4 (-1)) 6 50) 7 (-1)) 8 (-1)))), (q2, .inl (pv_I E, 31, .inl (fun _ => 0))), (q3, .inl (pv_I E, 31, .inl (fun _ => 0))), (q4, .inl (pv_I E, 7, .inl (fun _ => 0))), (q5, .inl (pv_I E, 16, .inl (fun _ => 0))), (q6, .inl (pv_I E, 2, .inl (fun _ => 0))), (q7, .inl (pv_I E, 120, .inl (fun _ => 0))), (q8, .inl (pv_I E, 4, .inl (fun _ => 0))), (q9, .inl (pv_I E, 4, .inl (fun _ => 0))), (q10, .inl (pv_J E, 160, .inr (.inl (fun _ => 0))))] H := hP
  have hD : va_D A [(a0, .inr (5, [.ref q1, .ref q2, .ref q3, .int 0, .ref q4, .ref q5, .ref q6, .ref q7, .int 0, .int 0, .int 0, .int 0, .int 0, .int 0, .ref q8, .ref q9, .ref q10])), (q1, .inl (pv_I E, 31, .inl (upd (upd (upd (upd (upd (upd (upd (fun _ => 0) 1 5) 3 (-1)) 5 50) 4 (-1)) 6 50) 7 (-1)) 8 (-1)))), (q2, .inl (pv_I E, 31, .inl (fun _ => 0))), (q3, .inl (pv_I E, 31, .inl (fun _ => 0))), (q4, .inl (pv_I E, 7, .inl (fun _ => 0))), (q5, .inl (pv_I E, 16, .inl (fun _ => 0))), (q6, .inl (pv_I E, 2, .inl (fun _ => 0))), (q7, .inl (pv_I E, 120, .inl (fun _ => 0))), (q8, .inl (pv_I E, 4, .inl (fun _ => 0))), (q9, .inl (pv_I E, 4, .inl (fun _ => 0))), (q10, .inl (pv_J E, 160, .inr (.inl (fun _ => 0))))] := hD
  refine lv_iinc (pc := 139) (v := 2) (lv' := [(1, .int 2), (0, .ref a0)]) hx hb dX7_init_139 hl (k := 0) rfl (by decide) (Nat.le_of_ble_eq_true rfl) rfl (fun ls hl => ?_)
  refine lv_goto (pc := 142) (tgt := 123) hx hb dX7_init_142 (by decide) ?_
  refine lv_iload_n (pc := 123) hx hb dX7_init_123 rfl (lv_at hl 0 rfl) ?_
  refine lv_bipush (pc := 124) (v := 8) hx hb dX7_init_124 (by decide) ?_
  refine lv_icmp_ge (pc := 126) (tgt := 145) hx hb dX7_init_126 (by decide) (fun c9 => absurd c9 (by decide)) (fun _ => ?_)
  refine lv_aload_n (pc := 129) hx hb dX7_init_129 rfl (lv_at hl 1 rfl) ?_
  refine va_get (pc := 130) (D := E.1) (ci := 5) (v := .ref q1) (C := RX7) (T := TX7) (N := 17) hx hb hts i_RX7 hown hK hP 0 rfl rfl 0 (Nat.le_of_ble_eq_true rfl) fl_9 (fun _ h9 => h9) rfl dX7_init_130 ?_
  refine lv_bipush (pc := 133) (v := 7) hx hb dX7_init_133 (by decide) ?_
  refine lv_iload_n (pc := 135) hx hb dX7_init_135 rfl (lv_at hl 0 rfl) ?_
  refine lv_iadd (pc := 136) hx hb dX7_init_136 ?_
  refine W.eq (g2 := F0 m 137 ls [.int 9, .ref q1]) (by rw [show ((7 : Int32) + 2) = 9 from by decide]) ?_
  refine lv_iconst (pc := 137) (v := (-1)) hx hb dX7_init_137 (by decide) ?_
  refine va_iast (pc := 138) (D := E.1) hx hb hK hP hD hS 1 0 rfl rfl (by decide : ¬ ((9 : Int32) < 0 ∨ 31 ≤ (9 : Int32).toNatClampNeg)) dX7_init_138 (fun H locs hP hD hS => ?_)
  have hP : va_P E.1 vwCl [(a0, .inr (5, [.ref q1, .ref q2, .ref q3, .int 0, .ref q4, .ref q5, .ref q6, .ref q7, .int 0, .int 0, .int 0, .int 0, .int 0, .int 0, .ref q8, .ref q9, .ref q10])), (q1, .inl (pv_I E, 31, .inl (upd (upd (upd (upd (upd (upd (upd (upd (fun _ => 0) 1 5) 3 (-1)) 5 50) 4 (-1)) 6 50) 7 (-1)) 8 (-1)) 9 (-1)))), (q2, .inl (pv_I E, 31, .inl (fun _ => 0))), (q3, .inl (pv_I E, 31, .inl (fun _ => 0))), (q4, .inl (pv_I E, 7, .inl (fun _ => 0))), (q5, .inl (pv_I E, 16, .inl (fun _ => 0))), (q6, .inl (pv_I E, 2, .inl (fun _ => 0))), (q7, .inl (pv_I E, 120, .inl (fun _ => 0))), (q8, .inl (pv_I E, 4, .inl (fun _ => 0))), (q9, .inl (pv_I E, 4, .inl (fun _ => 0))), (q10, .inl (pv_J E, 160, .inr (.inl (fun _ => 0))))] H := hP
  have hD : va_D A [(a0, .inr (5, [.ref q1, .ref q2, .ref q3, .int 0, .ref q4, .ref q5, .ref q6, .ref q7, .int 0, .int 0, .int 0, .int 0, .int 0, .int 0, .ref q8, .ref q9, .ref q10])), (q1, .inl (pv_I E, 31, .inl (upd (upd (upd (upd (upd (upd (upd (upd (fun _ => 0) 1 5) 3 (-1)) 5 50) 4 (-1)) 6 50) 7 (-1)) 8 (-1)) 9 (-1)))), (q2, .inl (pv_I E, 31, .inl (fun _ => 0))), (q3, .inl (pv_I E, 31, .inl (fun _ => 0))), (q4, .inl (pv_I E, 7, .inl (fun _ => 0))), (q5, .inl (pv_I E, 16, .inl (fun _ => 0))), (q6, .inl (pv_I E, 2, .inl (fun _ => 0))), (q7, .inl (pv_I E, 120, .inl (fun _ => 0))), (q8, .inl (pv_I E, 4, .inl (fun _ => 0))), (q9, .inl (pv_I E, 4, .inl (fun _ => 0))), (q10, .inl (pv_J E, 160, .inr (.inl (fun _ => 0))))] := hD
  refine lv_iinc (pc := 139) (v := 3) (lv' := [(1, .int 3), (0, .ref a0)]) hx hb dX7_init_139 hl (k := 0) rfl (by decide) (Nat.le_of_ble_eq_true rfl) rfl (fun ls hl => ?_)
  refine lv_goto (pc := 142) (tgt := 123) hx hb dX7_init_142 (by decide) ?_
  refine lv_iload_n (pc := 123) hx hb dX7_init_123 rfl (lv_at hl 0 rfl) ?_
  refine lv_bipush (pc := 124) (v := 8) hx hb dX7_init_124 (by decide) ?_
  refine lv_icmp_ge (pc := 126) (tgt := 145) hx hb dX7_init_126 (by decide) (fun c9 => absurd c9 (by decide)) (fun _ => ?_)
  refine lv_aload_n (pc := 129) hx hb dX7_init_129 rfl (lv_at hl 1 rfl) ?_
  refine va_get (pc := 130) (D := E.1) (ci := 5) (v := .ref q1) (C := RX7) (T := TX7) (N := 17) hx hb hts i_RX7 hown hK hP 0 rfl rfl 0 (Nat.le_of_ble_eq_true rfl) fl_9 (fun _ h9 => h9) rfl dX7_init_130 ?_
  refine lv_bipush (pc := 133) (v := 7) hx hb dX7_init_133 (by decide) ?_
  refine lv_iload_n (pc := 135) hx hb dX7_init_135 rfl (lv_at hl 0 rfl) ?_
  refine lv_iadd (pc := 136) hx hb dX7_init_136 ?_
  refine W.eq (g2 := F0 m 137 ls [.int 10, .ref q1]) (by rw [show ((7 : Int32) + 3) = 10 from by decide]) ?_
  refine lv_iconst (pc := 137) (v := (-1)) hx hb dX7_init_137 (by decide) ?_
  refine va_iast (pc := 138) (D := E.1) hx hb hK hP hD hS 1 0 rfl rfl (by decide : ¬ ((10 : Int32) < 0 ∨ 31 ≤ (10 : Int32).toNatClampNeg)) dX7_init_138 (fun H locs hP hD hS => ?_)
  have hP : va_P E.1 vwCl [(a0, .inr (5, [.ref q1, .ref q2, .ref q3, .int 0, .ref q4, .ref q5, .ref q6, .ref q7, .int 0, .int 0, .int 0, .int 0, .int 0, .int 0, .ref q8, .ref q9, .ref q10])), (q1, .inl (pv_I E, 31, .inl (upd (upd (upd (upd (upd (upd (upd (upd (upd (fun _ => 0) 1 5) 3 (-1)) 5 50) 4 (-1)) 6 50) 7 (-1)) 8 (-1)) 9 (-1)) 10 (-1)))), (q2, .inl (pv_I E, 31, .inl (fun _ => 0))), (q3, .inl (pv_I E, 31, .inl (fun _ => 0))), (q4, .inl (pv_I E, 7, .inl (fun _ => 0))), (q5, .inl (pv_I E, 16, .inl (fun _ => 0))), (q6, .inl (pv_I E, 2, .inl (fun _ => 0))), (q7, .inl (pv_I E, 120, .inl (fun _ => 0))), (q8, .inl (pv_I E, 4, .inl (fun _ => 0))), (q9, .inl (pv_I E, 4, .inl (fun _ => 0))), (q10, .inl (pv_J E, 160, .inr (.inl (fun _ => 0))))] H := hP
  have hD : va_D A [(a0, .inr (5, [.ref q1, .ref q2, .ref q3, .int 0, .ref q4, .ref q5, .ref q6, .ref q7, .int 0, .int 0, .int 0, .int 0, .int 0, .int 0, .ref q8, .ref q9, .ref q10])), (q1, .inl (pv_I E, 31, .inl (upd (upd (upd (upd (upd (upd (upd (upd (upd (fun _ => 0) 1 5) 3 (-1)) 5 50) 4 (-1)) 6 50) 7 (-1)) 8 (-1)) 9 (-1)) 10 (-1)))), (q2, .inl (pv_I E, 31, .inl (fun _ => 0))), (q3, .inl (pv_I E, 31, .inl (fun _ => 0))), (q4, .inl (pv_I E, 7, .inl (fun _ => 0))), (q5, .inl (pv_I E, 16, .inl (fun _ => 0))), (q6, .inl (pv_I E, 2, .inl (fun _ => 0))), (q7, .inl (pv_I E, 120, .inl (fun _ => 0))), (q8, .inl (pv_I E, 4, .inl (fun _ => 0))), (q9, .inl (pv_I E, 4, .inl (fun _ => 0))), (q10, .inl (pv_J E, 160, .inr (.inl (fun _ => 0))))] := hD
  refine lv_iinc (pc := 139) (v := 4) (lv' := [(1, .int 4), (0, .ref a0)]) hx hb dX7_init_139 hl (k := 0) rfl (by decide) (Nat.le_of_ble_eq_true rfl) rfl (fun ls hl => ?_)
  refine lv_goto (pc := 142) (tgt := 123) hx hb dX7_init_142 (by decide) ?_
  refine lv_iload_n (pc := 123) hx hb dX7_init_123 rfl (lv_at hl 0 rfl) ?_
  refine lv_bipush (pc := 124) (v := 8) hx hb dX7_init_124 (by decide) ?_
  refine lv_icmp_ge (pc := 126) (tgt := 145) hx hb dX7_init_126 (by decide) (fun c9 => absurd c9 (by decide)) (fun _ => ?_)
  refine lv_aload_n (pc := 129) hx hb dX7_init_129 rfl (lv_at hl 1 rfl) ?_
  refine va_get (pc := 130) (D := E.1) (ci := 5) (v := .ref q1) (C := RX7) (T := TX7) (N := 17) hx hb hts i_RX7 hown hK hP 0 rfl rfl 0 (Nat.le_of_ble_eq_true rfl) fl_9 (fun _ h9 => h9) rfl dX7_init_130 ?_
  refine lv_bipush (pc := 133) (v := 7) hx hb dX7_init_133 (by decide) ?_
  refine lv_iload_n (pc := 135) hx hb dX7_init_135 rfl (lv_at hl 0 rfl) ?_
  refine lv_iadd (pc := 136) hx hb dX7_init_136 ?_
  refine W.eq (g2 := F0 m 137 ls [.int 11, .ref q1]) (by rw [show ((7 : Int32) + 4) = 11 from by decide]) ?_
  refine lv_iconst (pc := 137) (v := (-1)) hx hb dX7_init_137 (by decide) ?_
  refine va_iast (pc := 138) (D := E.1) hx hb hK hP hD hS 1 0 rfl rfl (by decide : ¬ ((11 : Int32) < 0 ∨ 31 ≤ (11 : Int32).toNatClampNeg)) dX7_init_138 (fun H locs hP hD hS => ?_)
  have hP : va_P E.1 vwCl [(a0, .inr (5, [.ref q1, .ref q2, .ref q3, .int 0, .ref q4, .ref q5, .ref q6, .ref q7, .int 0, .int 0, .int 0, .int 0, .int 0, .int 0, .ref q8, .ref q9, .ref q10])), (q1, .inl (pv_I E, 31, .inl (upd (upd (upd (upd (upd (upd (upd (upd (upd (upd (fun _ => 0) 1 5) 3 (-1)) 5 50) 4 (-1)) 6 50) 7 (-1)) 8 (-1)) 9 (-1)) 10 (-1)) 11 (-1)))), (q2, .inl (pv_I E, 31, .inl (fun _ => 0))), (q3, .inl (pv_I E, 31, .inl (fun _ => 0))), (q4, .inl (pv_I E, 7, .inl (fun _ => 0))), (q5, .inl (pv_I E, 16, .inl (fun _ => 0))), (q6, .inl (pv_I E, 2, .inl (fun _ => 0))), (q7, .inl (pv_I E, 120, .inl (fun _ => 0))), (q8, .inl (pv_I E, 4, .inl (fun _ => 0))), (q9, .inl (pv_I E, 4, .inl (fun _ => 0))), (q10, .inl (pv_J E, 160, .inr (.inl (fun _ => 0))))] H := hP
  have hD : va_D A [(a0, .inr (5, [.ref q1, .ref q2, .ref q3, .int 0, .ref q4, .ref q5, .ref q6, .ref q7, .int 0, .int 0, .int 0, .int 0, .int 0, .int 0, .ref q8, .ref q9, .ref q10])), (q1, .inl (pv_I E, 31, .inl (upd (upd (upd (upd (upd (upd (upd (upd (upd (upd (fun _ => 0) 1 5) 3 (-1)) 5 50) 4 (-1)) 6 50) 7 (-1)) 8 (-1)) 9 (-1)) 10 (-1)) 11 (-1)))), (q2, .inl (pv_I E, 31, .inl (fun _ => 0))), (q3, .inl (pv_I E, 31, .inl (fun _ => 0))), (q4, .inl (pv_I E, 7, .inl (fun _ => 0))), (q5, .inl (pv_I E, 16, .inl (fun _ => 0))), (q6, .inl (pv_I E, 2, .inl (fun _ => 0))), (q7, .inl (pv_I E, 120, .inl (fun _ => 0))), (q8, .inl (pv_I E, 4, .inl (fun _ => 0))), (q9, .inl (pv_I E, 4, .inl (fun _ => 0))), (q10, .inl (pv_J E, 160, .inr (.inl (fun _ => 0))))] := hD
  refine lv_iinc (pc := 139) (v := 5) (lv' := [(1, .int 5), (0, .ref a0)]) hx hb dX7_init_139 hl (k := 0) rfl (by decide) (Nat.le_of_ble_eq_true rfl) rfl (fun ls hl => ?_)
  refine lv_goto (pc := 142) (tgt := 123) hx hb dX7_init_142 (by decide) ?_
  refine lv_iload_n (pc := 123) hx hb dX7_init_123 rfl (lv_at hl 0 rfl) ?_
  refine lv_bipush (pc := 124) (v := 8) hx hb dX7_init_124 (by decide) ?_
  refine lv_icmp_ge (pc := 126) (tgt := 145) hx hb dX7_init_126 (by decide) (fun c9 => absurd c9 (by decide)) (fun _ => ?_)
  refine lv_aload_n (pc := 129) hx hb dX7_init_129 rfl (lv_at hl 1 rfl) ?_
  refine va_get (pc := 130) (D := E.1) (ci := 5) (v := .ref q1) (C := RX7) (T := TX7) (N := 17) hx hb hts i_RX7 hown hK hP 0 rfl rfl 0 (Nat.le_of_ble_eq_true rfl) fl_9 (fun _ h9 => h9) rfl dX7_init_130 ?_
  refine lv_bipush (pc := 133) (v := 7) hx hb dX7_init_133 (by decide) ?_
  refine lv_iload_n (pc := 135) hx hb dX7_init_135 rfl (lv_at hl 0 rfl) ?_
  refine lv_iadd (pc := 136) hx hb dX7_init_136 ?_
  refine W.eq (g2 := F0 m 137 ls [.int 12, .ref q1]) (by rw [show ((7 : Int32) + 5) = 12 from by decide]) ?_
  refine lv_iconst (pc := 137) (v := (-1)) hx hb dX7_init_137 (by decide) ?_
  refine va_iast (pc := 138) (D := E.1) hx hb hK hP hD hS 1 0 rfl rfl (by decide : ¬ ((12 : Int32) < 0 ∨ 31 ≤ (12 : Int32).toNatClampNeg)) dX7_init_138 (fun H locs hP hD hS => ?_)
  have hP : va_P E.1 vwCl [(a0, .inr (5, [.ref q1, .ref q2, .ref q3, .int 0, .ref q4, .ref q5, .ref q6, .ref q7, .int 0, .int 0, .int 0, .int 0, .int 0, .int 0, .ref q8, .ref q9, .ref q10])), (q1, .inl (pv_I E, 31, .inl (upd (upd (upd (upd (upd (upd (upd (upd (upd (upd (upd (fun _ => 0) 1 5) 3 (-1)) 5 50) 4 (-1)) 6 50) 7 (-1)) 8 (-1)) 9 (-1)) 10 (-1)) 11 (-1)) 12 (-1)))), (q2, .inl (pv_I E, 31, .inl (fun _ => 0))), (q3, .inl (pv_I E, 31, .inl (fun _ => 0))), (q4, .inl (pv_I E, 7, .inl (fun _ => 0))), (q5, .inl (pv_I E, 16, .inl (fun _ => 0))), (q6, .inl (pv_I E, 2, .inl (fun _ => 0))), (q7, .inl (pv_I E, 120, .inl (fun _ => 0))), (q8, .inl (pv_I E, 4, .inl (fun _ => 0))), (q9, .inl (pv_I E, 4, .inl (fun _ => 0))), (q10, .inl (pv_J E, 160, .inr (.inl (fun _ => 0))))] H := hP
  have hD : va_D A [(a0, .inr (5, [.ref q1, .ref q2, .ref q3, .int 0, .ref q4, .ref q5, .ref q6, .ref q7, .int 0, .int 0, .int 0, .int 0, .int 0, .int 0, .ref q8, .ref q9, .ref q10])), (q1, .inl (pv_I E, 31, .inl (upd (upd (upd (upd (upd (upd (upd (upd (upd (upd (upd (fun _ => 0) 1 5) 3 (-1)) 5 50) 4 (-1)) 6 50) 7 (-1)) 8 (-1)) 9 (-1)) 10 (-1)) 11 (-1)) 12 (-1)))), (q2, .inl (pv_I E, 31, .inl (fun _ => 0))), (q3, .inl (pv_I E, 31, .inl (fun _ => 0))), (q4, .inl (pv_I E, 7, .inl (fun _ => 0))), (q5, .inl (pv_I E, 16, .inl (fun _ => 0))), (q6, .inl (pv_I E, 2, .inl (fun _ => 0))), (q7, .inl (pv_I E, 120, .inl (fun _ => 0))), (q8, .inl (pv_I E, 4, .inl (fun _ => 0))), (q9, .inl (pv_I E, 4, .inl (fun _ => 0))), (q10, .inl (pv_J E, 160, .inr (.inl (fun _ => 0))))] := hD
  refine lv_iinc (pc := 139) (v := 6) (lv' := [(1, .int 6), (0, .ref a0)]) hx hb dX7_init_139 hl (k := 0) rfl (by decide) (Nat.le_of_ble_eq_true rfl) rfl (fun ls hl => ?_)
  refine lv_goto (pc := 142) (tgt := 123) hx hb dX7_init_142 (by decide) ?_
  refine lv_iload_n (pc := 123) hx hb dX7_init_123 rfl (lv_at hl 0 rfl) ?_
  refine lv_bipush (pc := 124) (v := 8) hx hb dX7_init_124 (by decide) ?_
  refine lv_icmp_ge (pc := 126) (tgt := 145) hx hb dX7_init_126 (by decide) (fun c9 => absurd c9 (by decide)) (fun _ => ?_)
  refine lv_aload_n (pc := 129) hx hb dX7_init_129 rfl (lv_at hl 1 rfl) ?_
  refine va_get (pc := 130) (D := E.1) (ci := 5) (v := .ref q1) (C := RX7) (T := TX7) (N := 17) hx hb hts i_RX7 hown hK hP 0 rfl rfl 0 (Nat.le_of_ble_eq_true rfl) fl_9 (fun _ h9 => h9) rfl dX7_init_130 ?_
  refine lv_bipush (pc := 133) (v := 7) hx hb dX7_init_133 (by decide) ?_
  refine lv_iload_n (pc := 135) hx hb dX7_init_135 rfl (lv_at hl 0 rfl) ?_
  refine lv_iadd (pc := 136) hx hb dX7_init_136 ?_
  refine W.eq (g2 := F0 m 137 ls [.int 13, .ref q1]) (by rw [show ((7 : Int32) + 6) = 13 from by decide]) ?_
  refine lv_iconst (pc := 137) (v := (-1)) hx hb dX7_init_137 (by decide) ?_
  refine va_iast (pc := 138) (D := E.1) hx hb hK hP hD hS 1 0 rfl rfl (by decide : ¬ ((13 : Int32) < 0 ∨ 31 ≤ (13 : Int32).toNatClampNeg)) dX7_init_138 (fun H locs hP hD hS => ?_)
  have hP : va_P E.1 vwCl [(a0, .inr (5, [.ref q1, .ref q2, .ref q3, .int 0, .ref q4, .ref q5, .ref q6, .ref q7, .int 0, .int 0, .int 0, .int 0, .int 0, .int 0, .ref q8, .ref q9, .ref q10])), (q1, .inl (pv_I E, 31, .inl (upd (upd (upd (upd (upd (upd (upd (upd (upd (upd (upd (upd (fun _ => 0) 1 5) 3 (-1)) 5 50) 4 (-1)) 6 50) 7 (-1)) 8 (-1)) 9 (-1)) 10 (-1)) 11 (-1)) 12 (-1)) 13 (-1)))), (q2, .inl (pv_I E, 31, .inl (fun _ => 0))), (q3, .inl (pv_I E, 31, .inl (fun _ => 0))), (q4, .inl (pv_I E, 7, .inl (fun _ => 0))), (q5, .inl (pv_I E, 16, .inl (fun _ => 0))), (q6, .inl (pv_I E, 2, .inl (fun _ => 0))), (q7, .inl (pv_I E, 120, .inl (fun _ => 0))), (q8, .inl (pv_I E, 4, .inl (fun _ => 0))), (q9, .inl (pv_I E, 4, .inl (fun _ => 0))), (q10, .inl (pv_J E, 160, .inr (.inl (fun _ => 0))))] H := hP
  have hD : va_D A [(a0, .inr (5, [.ref q1, .ref q2, .ref q3, .int 0, .ref q4, .ref q5, .ref q6, .ref q7, .int 0, .int 0, .int 0, .int 0, .int 0, .int 0, .ref q8, .ref q9, .ref q10])), (q1, .inl (pv_I E, 31, .inl (upd (upd (upd (upd (upd (upd (upd (upd (upd (upd (upd (upd (fun _ => 0) 1 5) 3 (-1)) 5 50) 4 (-1)) 6 50) 7 (-1)) 8 (-1)) 9 (-1)) 10 (-1)) 11 (-1)) 12 (-1)) 13 (-1)))), (q2, .inl (pv_I E, 31, .inl (fun _ => 0))), (q3, .inl (pv_I E, 31, .inl (fun _ => 0))), (q4, .inl (pv_I E, 7, .inl (fun _ => 0))), (q5, .inl (pv_I E, 16, .inl (fun _ => 0))), (q6, .inl (pv_I E, 2, .inl (fun _ => 0))), (q7, .inl (pv_I E, 120, .inl (fun _ => 0))), (q8, .inl (pv_I E, 4, .inl (fun _ => 0))), (q9, .inl (pv_I E, 4, .inl (fun _ => 0))), (q10, .inl (pv_J E, 160, .inr (.inl (fun _ => 0))))] := hD
  refine lv_iinc (pc := 139) (v := 7) (lv' := [(1, .int 7), (0, .ref a0)]) hx hb dX7_init_139 hl (k := 0) rfl (by decide) (Nat.le_of_ble_eq_true rfl) rfl (fun ls hl => ?_)
  refine lv_goto (pc := 142) (tgt := 123) hx hb dX7_init_142 (by decide) ?_
  refine lv_iload_n (pc := 123) hx hb dX7_init_123 rfl (lv_at hl 0 rfl) ?_
  refine lv_bipush (pc := 124) (v := 8) hx hb dX7_init_124 (by decide) ?_
  refine lv_icmp_ge (pc := 126) (tgt := 145) hx hb dX7_init_126 (by decide) (fun c9 => absurd c9 (by decide)) (fun _ => ?_)
  refine lv_aload_n (pc := 129) hx hb dX7_init_129 rfl (lv_at hl 1 rfl) ?_
  refine va_get (pc := 130) (D := E.1) (ci := 5) (v := .ref q1) (C := RX7) (T := TX7) (N := 17) hx hb hts i_RX7 hown hK hP 0 rfl rfl 0 (Nat.le_of_ble_eq_true rfl) fl_9 (fun _ h9 => h9) rfl dX7_init_130 ?_
  refine lv_bipush (pc := 133) (v := 7) hx hb dX7_init_133 (by decide) ?_
  refine lv_iload_n (pc := 135) hx hb dX7_init_135 rfl (lv_at hl 0 rfl) ?_
  refine lv_iadd (pc := 136) hx hb dX7_init_136 ?_
  refine W.eq (g2 := F0 m 137 ls [.int 14, .ref q1]) (by rw [show ((7 : Int32) + 7) = 14 from by decide]) ?_
  refine lv_iconst (pc := 137) (v := (-1)) hx hb dX7_init_137 (by decide) ?_
  refine va_iast (pc := 138) (D := E.1) hx hb hK hP hD hS 1 0 rfl rfl (by decide : ¬ ((14 : Int32) < 0 ∨ 31 ≤ (14 : Int32).toNatClampNeg)) dX7_init_138 (fun H locs hP hD hS => ?_)
  have hP : va_P E.1 vwCl [(a0, .inr (5, [.ref q1, .ref q2, .ref q3, .int 0, .ref q4, .ref q5, .ref q6, .ref q7, .int 0, .int 0, .int 0, .int 0, .int 0, .int 0, .ref q8, .ref q9, .ref q10])), (q1, .inl (pv_I E, 31, .inl (upd (upd (upd (upd (upd (upd (upd (upd (upd (upd (upd (upd (upd (fun _ => 0) 1 5) 3 (-1)) 5 50) 4 (-1)) 6 50) 7 (-1)) 8 (-1)) 9 (-1)) 10 (-1)) 11 (-1)) 12 (-1)) 13 (-1)) 14 (-1)))), (q2, .inl (pv_I E, 31, .inl (fun _ => 0))), (q3, .inl (pv_I E, 31, .inl (fun _ => 0))), (q4, .inl (pv_I E, 7, .inl (fun _ => 0))), (q5, .inl (pv_I E, 16, .inl (fun _ => 0))), (q6, .inl (pv_I E, 2, .inl (fun _ => 0))), (q7, .inl (pv_I E, 120, .inl (fun _ => 0))), (q8, .inl (pv_I E, 4, .inl (fun _ => 0))), (q9, .inl (pv_I E, 4, .inl (fun _ => 0))), (q10, .inl (pv_J E, 160, .inr (.inl (fun _ => 0))))] H := hP
  have hD : va_D A [(a0, .inr (5, [.ref q1, .ref q2, .ref q3, .int 0, .ref q4, .ref q5, .ref q6, .ref q7, .int 0, .int 0, .int 0, .int 0, .int 0, .int 0, .ref q8, .ref q9, .ref q10])), (q1, .inl (pv_I E, 31, .inl (upd (upd (upd (upd (upd (upd (upd (upd (upd (upd (upd (upd (upd (fun _ => 0) 1 5) 3 (-1)) 5 50) 4 (-1)) 6 50) 7 (-1)) 8 (-1)) 9 (-1)) 10 (-1)) 11 (-1)) 12 (-1)) 13 (-1)) 14 (-1)))), (q2, .inl (pv_I E, 31, .inl (fun _ => 0))), (q3, .inl (pv_I E, 31, .inl (fun _ => 0))), (q4, .inl (pv_I E, 7, .inl (fun _ => 0))), (q5, .inl (pv_I E, 16, .inl (fun _ => 0))), (q6, .inl (pv_I E, 2, .inl (fun _ => 0))), (q7, .inl (pv_I E, 120, .inl (fun _ => 0))), (q8, .inl (pv_I E, 4, .inl (fun _ => 0))), (q9, .inl (pv_I E, 4, .inl (fun _ => 0))), (q10, .inl (pv_J E, 160, .inr (.inl (fun _ => 0))))] := hD
  refine lv_iinc (pc := 139) (v := 8) (lv' := [(1, .int 8), (0, .ref a0)]) hx hb dX7_init_139 hl (k := 0) rfl (by decide) (Nat.le_of_ble_eq_true rfl) rfl (fun ls hl => ?_)
  refine lv_goto (pc := 142) (tgt := 123) hx hb dX7_init_142 (by decide) ?_
  refine lv_iload_n (pc := 123) hx hb dX7_init_123 rfl (lv_at hl 0 rfl) ?_
  refine lv_bipush (pc := 124) (v := 8) hx hb dX7_init_124 (by decide) ?_
  refine lv_icmp_ge (pc := 126) (tgt := 145) hx hb dX7_init_126 (by decide) (fun _ => ?_) (fun c9 => absurd (by decide) c9)
  refine W.widen (k := 10) (n := 406) (Nat.le_of_ble_eq_true rfl) (Nat.le_of_ble_eq_true rfl) ?_
  refine W.vret hx hb hr (fun t ht _ => ⟨?_, by rw [hAe]; exact hS.F ht⟩) hS.2.2 dX7_init_145 hlk
  exact ⟨pv_wM E a0 q1 q2 q3 q4 q5 q6 q7 q8 q9 q10 ((upd (upd (upd (upd (upd (upd (upd (upd (upd (upd (upd (upd (upd (fun _ => 0) 1 5) 3 (-1)) 5 50) 4 (-1)) 6 50) 7 (-1)) 8 (-1)) 9 (-1)) 10 (-1)) 11 (-1)) 12 (-1)) 13 (-1)) 14 (-1)), (fun _ => 0), (fun _ => 0), 0, (fun _ => 0), (fun _ => 0), (fun _ => 0), (fun _ => 0), 0, 0, 0, 0, 0, 0, (fun _ => 0), (fun _ => 0), (fun _ => 0)), rfl, ⟨q1, q2, q3, q4, q5, q6, q7, q8, q9, q10, rfl⟩, by rw [ht]; exact hP, by rw [hAe]; exact hD⟩
def pv_iX (x : pv_XT) : Prop := pv_iT x.1 ∧ pv_iT x.2.1 ∧ pv_iT x.2.2.1 ∧ pv_iP x.2.2.2.2.1 ∧ (∀ j, j < 4 → pv_iS (x.2.2.2.2.2.1 j)) ∧ (∀ j, j < 7 → x.2.2.2.2.2.2.1 j = 0) ∧ x.2.2.2.2.2.2.2 = 0
/-- what the constructor of ProvinceCards asks besides -/
def pv_XX (U : State) : Prop := va_Nw (.methodLinkNest RX6 24 yX1_init RX6) U ∧ va_Nw (.methodLinkNest RX6 31 yX5_init RX6) U ∧ va_Nw (.methodLinkNest RX6 46 yX3_init RX6) U ∧ va_AO "ProvinceCards$Sheet" U
