/-! ===== the constructors: rows that make cells ===== -/
abbrev VE.R (E : VE) : Room := E.2.2.2.1
abbrev VE.st (E : VE) : State := E.2.2.2.2.1
abbrev VE.meth (E : VE) : Method := E.2.2.2.2.2.2.2.2.1
def upE (E : VE) (kc ks : Nat) : VE := (E.1, E.2.1, E.2.2.1, E.2.2.2.1, E.2.2.2.2.1, E.2.2.2.2.2.1, E.2.2.2.2.2.2.1, E.2.2.2.2.2.2.2.1, E.2.2.2.2.2.2.2.2.1, E.2.2.2.2.2.2.2.2.2.1, E.2.2.2.2.2.2.2.2.2.2.1, E.2.2.2.2.2.2.2.2.2.2.2.1, E.2.2.2.2.2.2.2.2.2.2.2.2.1, kc, ks)
/-- what the good words don't hold: arrays of references, links of nest mates -/
def AOs (U : State) : Prop := va_AO RX1 U ∧ va_AO RX2 U ∧ va_Nw (.methodLinkNest RX4 11 yX1_init RX4) U ∧ va_Nw (.methodLinkNest RX4 30 yX3_init RX4) U ∧ va_Nw (.methodLinkNest RX0 17 yX1_init RX4) U ∧ va_Nw (.methodLinkNest RX4 49 yX2_init RX4) U
theorem AOs.call {U : State} {g : JFrame} {mk : MethodId} {a : Array Value} (h : AOs U) : AOs (U.calling g mk a) := ⟨va_AO.moved (u := U) (U := U.calling g mk a) (Vm.Alike.refl U.vm) h.1, va_AO.moved (u := U) (U := U.calling g mk a) (Vm.Alike.refl U.vm) h.2.1, va_Nw.same rfl (u := U) (U := U.calling g mk a) rfl h.2.2.1, va_Nw.same rfl (u := U) (U := U.calling g mk a) rfl h.2.2.2.1, va_Nw.same rfl (u := U) (U := U.calling g mk a) rfl h.2.2.2.2.1, va_Nw.same rfl (u := U) (U := U.calling g mk a) rfl h.2.2.2.2.2⟩
theorem AOs.go {s U : State} (hW : s.WarmedH U.vm) (h : AOs s) : AOs U := ⟨va_AO.moved hW.alike h.1, va_AO.moved hW.alike h.2.1, va_Nw.warmM hW h.2.2.1, va_Nw.warmM hW h.2.2.2.1, va_Nw.warmM hW h.2.2.2.2.1, va_Nw.warmM hW h.2.2.2.2.2⟩
def QA (G : GG) (WS : va_W → Prop) (A : Nat → Prop) : Array Value → State → Outcome → State → Prop := fun _ st oc t => oc = .returned none ∧ (∃ w1, WS w1 ∧ va_P G.1 vwCl w1 t.heap ∧ va_D A w1) ∧ va_F A st t
def QRA (E : VE) (WS : va_W → Prop) (nc ns : Nat) : State → Prop := match E with
  | (_, _, _, _, s, _, args, below, _, _, G, A, _, _, _) => MQ below (QA G WS A) args s nc ns A
abbrev rmA (k nc ns : Nat) : Room := { frames := k, cells := nc, slots := ns, locals := 60 * k }
def ConA (l : Launch) (G : GG) (k nc ns : Nat) (y : MethodName) (cc : ByteArray) (n : Nat) (av : List Value) (ws : va_W) (WS : va_W → Prop) : Prop :=
  ∀ sz : Nat, Met l y (wsm y cc n none) (rmA k nc ns) (va_Pc av (fun U => U.heap.size = sz ∧ va_P G.1 vwCl ws U.heap ∧ va_K G.1 vwCl (tysG G) U ∧ va_D (fun _ => True) ws ∧ SOk G (va_A ws sz) U ∧ AOs U)) (QA G WS (va_A ws sz)) nc ns (va_A ws sz)
theorem blind_ConA {G : GG} {ws : va_W} {av : List Value} {sz : Nat} {Z : Nat → Prop} : FrameBlind (va_Pc av (fun U => U.heap.size = sz ∧ va_P G.1 vwCl ws U.heap ∧ va_K G.1 vwCl (tysG G) U ∧ va_D (fun _ => True) ws ∧ SOk G Z U ∧ AOs U)) := fun a U g mk q => by
  obtain ⟨q0, q1, qP, qK, qD, qS, qA⟩ := q
  exact ⟨q0, q1, qP, va_K.moved (u := U) (U := U.calling g mk a) (Vm.Alike.refl U.vm) qK, qD, SOk.call qS, AOs.call qA⟩
section RA
variable {E : VE} {Q : State → Prop} {ws ws' : va_W} {pc kc ks : Nat} {ls : List (Nat × Value)} {st : List Value} {cc : ByteArray} {own : String} {kk : Nat} {ret : Option FieldType}
theorem Ctx.to (C : Ctx (upE E kc ks) cc own kk ret) {kc' ks' : Nat} (h1 : kc' ≤ E.R.cells) (h2 : ks' ≤ E.R.slots) : Ctx (upE E kc' ks') cc own kk ret := by
  obtain ⟨p, l, e, R, s, m, args, below, meth, c, G, A, nL, k1, k2⟩ := E
  have C : Ctx (p, l, e, R, s, m, args, below, meth, c, G, A, nL, kc, ks) cc own kk ret := C
  obtain ⟨a1, a2, a3, a4, a5, a6, a7, a8⟩ := C.x
  exact ⟨a1, a2, a3, a4, a5, a6, ⟨h1, h2⟩, a8⟩
theorem V_wide {kc' ks' : Nat} (h1 : kc ≤ kc') (h2 : ks ≤ ks') (k : V (upE E kc' ks') Q ws pc ls st) : V (upE E kc ks) Q ws pc ls st := by
  obtain ⟨p, l, e, R, s, m, args, below, meth, c, G, A, nL, k1, k2⟩ := E
  intro H locs la hP hD hS hl
  exact W.widen h1 h2 (k H locs la hP hD hS hl)
theorem P_sub {D : va_G} {cl : List vw_C} {ws wc : va_W} {H : Heap} (hP : va_P D cl ws H) (is : List Nat) (hC : is.map (fun i => ws[i]?) = wc.map some) : va_P D cl wc H := fun j q hj => by
  have h1 : (is.map (fun i => ws[i]?))[j]? = some (some q) := by rw [hC, List.getElem?_map, hj]; rfl
  rw [List.getElem?_map] at h1
  cases hi : is[j]? with
  | none => rw [hi] at h1; cases h1
  | some i => rw [hi] at h1; exact hP i q (Option.some.inj h1)
theorem V_perm (is : List Nat) (hs : is.map (fun i => ws[i]?) = ws'.map some) (hn : va_nd is = true) (k : V E Q ws' pc ls st) : V E Q ws pc ls st := by
  obtain ⟨p, l, e, R, s, m, args, below, meth, c, G, A, nL, k1, k2⟩ := E
  intro H locs la hP hD hS hl
  exact k H locs la (P_sub hP is hs) (hD.sub is hn hs) hS hl
theorem V_obj (C : Ctx E cc own kk ret) (hk : 1 ≤ kk) {idx : Nat} (hd : decode cc pc = .ok (.invokespecial idx, 3)) (hlk : Cond.methodLink own idx objectInit ∈ T0) {a : Nat} (k : V E Q ws (pc + 3) ls []) : V E Q ws pc ls [.ref a] := by
  obtain ⟨p, l, e, R, s, m, args, below, meth, c, G, A, nL, k1, k2⟩ := E
  obtain ⟨⟨hx, hb, hml, hown, hts⟩, hr, hlocks, hK, hA, hR, hcs, hSO⟩ := C.x
  intro H locs la hP hD hS hl
  refine W.objInit hx hb hown (hts _ hlk) (hts _ oi_i) (hts _ oi_c) rfl (by rw [hml]; exact hl.1) rfl hd (by omega) ?_ ?_
  · show 2 * 0 + 0 + 12 ≤ R.locals
    omega
  · exact W.eq (g2 := F0 m (pc + 3) la []) rfl (k H locs la hP hD hS hl)
def NOk (own : String) (idx ci N : Nat) (fs : List Value) : Prop := ∃ (C : String) (T : u_T) (ty : Nat → FieldType), vwCl[ci]? = some (C, T, N) ∧ (∀ w ∈ u_ws C T N, w ∈ T0) ∧ (∀ k, k < N → parseFieldDescriptor (T k).2.2.1 = some (ty k)) ∧ Cond.classLink own idx C ∈ T0 ∧ Cond.instantiable C N ∈ T0 ∧ Cond.initialized C ∈ T0 ∧ ∀ j, j < N → defaultValue (ty j) = vp_V fs j
theorem V_new (C : Ctx (upE E kc ks) cc own kk ret) {idx ci N : Nat} {fs : List Value} (hd : decode cc pc = .ok (.new idx, 3)) (hN : NOk own idx ci N fs) (h1 : kc + 1 ≤ E.R.cells) (h2 : ks + N ≤ E.R.slots) (k : ∀ q : Nat, V (upE E (kc + 1) (ks + N)) Q (ws ++ [(q, .inr (ci, fs))]) (pc + 3) ls (.ref q :: st)) : V (upE E kc ks) Q ws pc ls st := by
  obtain ⟨p, l, e, R, s, m, args, below, meth, c, G, A, nL, k1, k2⟩ := E
  have C : Ctx (p, l, e, R, s, m, args, below, meth, c, G, A, nL, kc, ks) cc own kk ret := C
  obtain ⟨⟨hx, hb, hml, hown, hts⟩, hr, hlocks, hK, hA, hR, hcs, hSO⟩ := C.x
  obtain ⟨C9, T9, ty, g1, g2, g3, g4, g5, g6, g7⟩ := hN
  intro H locs la hP hD hS hl
  exact va_new (ci := ci) (fs := fs) (C := C9) (T := T9) (N := N) hx hb hts g2 ty g3 hown (hts _ g4) (hts _ g5) (hts _ g6) hK hP hD hS hA g1 g7 h1 h2 hd (fun q H1 hP1 hD1 hS1 => k q H1 locs la hP1 hD1 hS1 hl)
theorem V_newi (C : Ctx (upE E kc ks) cc own kk ret) {n N : Nat} (hd : decode cc pc = .ok (.newarray .int, 2)) (hn : n < 2 ^ 20) (h1 : kc + 1 ≤ E.R.cells) (h2 : ks + n ≤ E.R.slots) (k : ∀ q : Nat, V (upE E (kc + 1) (ks + n)) Q (ws ++ [(q, iA E.G n (fun _ => 0))]) (pc + 2) ls (.ref q :: st)) : V (upE E kc ks) Q ws pc ls (.int (nI n) :: st) := by
  obtain ⟨p, l, e, R, s, m, args, below, meth, c, G, A, nL, k1, k2⟩ := E
  have C : Ctx (p, l, e, R, s, m, args, below, meth, c, G, A, nL, kc, ks) cc own kk ret := C
  obtain ⟨⟨hx, hb, hml, hown, hts⟩, hr, hlocks, hK, hA, hR, hcs, hSO⟩ := C.x
  intro H locs la hP hD hS hl
  refine va_newa (atype := .int) (ty := .int) (a0 := (n, .inl (fun _ => 0))) hx hb (hts _ ac_int) rfl hK hP hD hS hA (fun cA => rfl) (nI_pos (by omega)) (nI_clamp (by omega)) (by show n * 4 ≤ 536870912; omega) h1 h2 hd (fun q cA H1 hK1 hP1 hD1 hS1 => ?_)
  have e1 : s.vm.findClass ("[" ++ FieldType.int.toString) = some cA := (hK1.2 4 (cA, .int) rfl).2
  have e2 : s.vm.findClass ("[" ++ FieldType.int.toString) = some (G.cA 0) := (hK.2 0 (G.cA 0, .int) rfl).2
  rw [e1] at e2
  cases e2
  exact k q H1 locs la hP1 hD1 hS1 hl
theorem V_newl (C : Ctx (upE E kc ks) cc own kk ret) {n N : Nat} (hd : decode cc pc = .ok (.newarray .long, 2)) (hn : n < 2 ^ 20) (h1 : kc + 1 ≤ E.R.cells) (h2 : ks + n ≤ E.R.slots) (k : ∀ q : Nat, V (upE E (kc + 1) (ks + n)) Q (ws ++ [(q, lA E.G n (fun _ => 0))]) (pc + 2) ls (.ref q :: st)) : V (upE E kc ks) Q ws pc ls (.int (nI n) :: st) := by
  obtain ⟨p, l, e, R, s, m, args, below, meth, c, G, A, nL, k1, k2⟩ := E
  have C : Ctx (p, l, e, R, s, m, args, below, meth, c, G, A, nL, kc, ks) cc own kk ret := C
  obtain ⟨⟨hx, hb, hml, hown, hts⟩, hr, hlocks, hK, hA, hR, hcs, hSO⟩ := C.x
  intro H locs la hP hD hS hl
  refine va_newa (atype := .long) (ty := .long) (a0 := (n, .inr (.inl (fun _ => 0)))) hx hb (hts _ ac_long) rfl hK hP hD hS hA (fun cA => rfl) (nI_pos (by omega)) (nI_clamp (by omega)) (by show n * 8 ≤ 536870912; omega) h1 h2 hd (fun q cA H1 hK1 hP1 hD1 hS1 => ?_)
  have e1 : s.vm.findClass ("[" ++ FieldType.long.toString) = some cA := (hK1.2 4 (cA, .long) rfl).2
  have e2 : s.vm.findClass ("[" ++ FieldType.long.toString) = some (G.cA 1) := (hK.2 1 (G.cA 1, .long) rfl).2
  rw [e1] at e2
  cases e2
  exact k q H1 locs la hP1 hD1 hS1 hl
theorem V_newq (C : Ctx (upE E kc ks) cc own kk ret) {idx n : Nat} {D : String} (t0 : Nat) (hao : va_AO D E.st) (ht : t0 = 2 ∨ t0 = 3) (htt : (tysG E.G)[t0]? = some (E.G.cA t0, .object D)) (hlk : Cond.classLink own idx D ∈ T0) (hd : decode cc pc = .ok (.anewarray idx, 3)) (hn : n < 2 ^ 20) (h1 : kc + 1 ≤ E.R.cells) (h2 : ks + n ≤ E.R.slots) (k : ∀ q : Nat, V (upE E (kc + 1) (ks + n)) Q (ws ++ [(q, rA (E.G.cA t0) n (fun _ => none))]) (pc + 3) ls (.ref q :: st)) : V (upE E kc ks) Q ws pc ls (.int (nI n) :: st) := by
  obtain ⟨p, l, e, R, s, m, args, below, meth, c, G, A, nL, k1, k2⟩ := E
  have C : Ctx (p, l, e, R, s, m, args, below, meth, c, G, A, nL, kc, ks) cc own kk ret := C
  obtain ⟨⟨hx, hb, hml, hown, hts⟩, hr, hlocks, hK, hA, hR, hcs, hSO⟩ := C.x
  intro H locs la hP hD hS hl
  refine va_newq hx hb hown (hts _ hlk) hao hK hP hD hS hA (nI_pos (by omega)) (nI_clamp (by omega)) (by omega) h1 h2 hd (fun q cA H1 hK1 hP1 hD1 hS1 => ?_)
  obtain ⟨-, -, -, -, -, -, e1⟩ := hK1.2 4 (cA, .object D) rfl
  obtain ⟨-, -, -, -, -, -, e2⟩ := hK.2 t0 (G.cA t0, .object D) htt
  rw [e1] at e2
  cases e2
  exact k q H1 locs la hP1 hD1 hS1 hl
theorem V_aast (C : Ctx E cc own kk ret) (hd : decode cc pc = .ok (.aastore, 1)) (q0 t0 qk ci : Nat) {a v n i : Nat} {cA : ClassId} {r : vw_C} {vs : List Value} {f : Nat → Option Nat} (ha : ws[q0]? = some (a, rA cA n f)) (ht : (tysG E.G)[t0]? = some (cA, .object r.1)) (hv : ws[qk]? = some (v, .inr (ci, vs))) (hc : vwCl[ci]? = some r) (hi : i < n) (hn : n < 2 ^ 20) (hw : ws.set q0 (a, rA cA n (va_up f i (some v))) = ws') (k : V E Q ws' (pc + 1) ls st) : V E Q ws pc ls (.ref v :: .int (nI i) :: .ref a :: st) := by
  subst hw
  obtain ⟨p, l, e, R, s, m, args, below, meth, c, G, A, nL, k1, k2⟩ := E
  obtain ⟨⟨hx, hb, hml, hown, hts⟩, hr, hlocks, hK, hA, hR, hcs, hSO⟩ := C.x
  intro H locs la hP hD hS hl
  refine va_astq hx hb hK hP hD hS q0 t0 qk ci ha ht hv hc (vp_in_nI hi (by omega)) hd (fun H1 locs1 hP1 hD1 hS1 => ?_)
  rw [nI_clamp (by omega)] at hP1 hD1
  exact k H1 locs1 la hP1 hD1 hS1 hl
def POkF (own : String) (idx ci k : Nat) (ty : FieldType) : Prop := ∃ (C : String) (T : u_T) (N : Nat) (ty0 : Nat → FieldType), vwCl[ci]? = some (C, T, N) ∧ k < N ∧ Cond.fieldLink own idx (T k).1 (T k).2.1 (T k).2.2.1 ∈ T0 ∧ (∀ w ∈ u_ws C T N, w ∈ T0) ∧ (∀ k, k < N → parseFieldDescriptor (T k).2.2.1 = some (ty0 k)) ∧ (∀ a, a < N → ∀ b, b < N → a ≠ b → (T a).2.1 ≠ (T b).2.1) ∧ (T k).2.2.2 = true ∧ parseFieldDescriptor (T k).2.2.1 = some ty ∧ (T k).1 = own
theorem V_putF (C : Ctx E cc own kk ret) (hin2 : E.meth.name = "<init>") {idx : Nat} (hd : decode cc pc = .ok (.putfield idx, 3)) (q0 k : Nat) {a ci : Nat} {fs : List Value} {v : Value} {ty : FieldType} (hf : POkF own idx ci k ty) (he : ws[q0]? = some (a, .inr (ci, fs))) (hn : narrow ty v = v) (hfit : fits ty v = true) (hlen : k < fs.length) (hw : ws.set q0 (a, .inr (ci, fs.set k v)) = ws') (kk : V E Q ws' (pc + 3) ls st) : V E Q ws pc ls (v :: .ref a :: st) := by
  obtain ⟨p, l, e, R, s, m, args, below, meth, c, G, A, nL, kc, ks⟩ := E
  obtain ⟨⟨hx, hb, hml, hown, hts⟩, hr, hlocks, hK, hA, hR, hcs⟩ := C.x
  obtain ⟨C9, T9, N9, ty0, hc, hk, hl9, hin, hty, hnm, hfin, hd9, hde⟩ := hf
  subst hw
  intro H locs la hP hD hS hl
  exact va_putF (C := C9) (T := T9) (N := N9) hx hb hts hin ty0 hty hnm hown hK hP hD hS q0 he hc k hk (hts _ hl9) (fun _ h => h) hfin hin2 hde hd9 hn hfit hlen hd (fun H1 locs1 hP1 hD1 hS1 => kk H1 locs1 la hP1 hD1 hS1 hl)
theorem V_vretA (C : Ctx (upE E kc ks) cc own kk none) {WS : va_W → Prop} (hd : decode cc pc = .ok (.return_, 1)) (is : List Nat) (hs : is.map (fun i => ws[i]?) = ws'.map some) (hnd : va_nd is = true) (hW : WS ws') : V (upE E kc ks) (QRA E WS kc ks) ws pc ls [] := by
  obtain ⟨p, l, e, R, s, m, args, below, meth, c, G, A, nL, k1, k2⟩ := E
  have C : Ctx (p, l, e, R, s, m, args, below, meth, c, G, A, nL, kc, ks) cc own kk none := C
  obtain ⟨⟨hx, hb, hml, hown, hts⟩, hr, hlocks, hK, hA, hR, hcs⟩ := C.x
  intro H locs la hP hD hS hl
  exact W.vret hx hb hr (fun t ht hW9 => ⟨rfl, ⟨ws', hW, by rw [ht]; exact P_sub hP is hs, hD.sub is hnd hs⟩, hS.F ht⟩) hS.2.2 hd hlocks
theorem ConA_of {l : Launch} {G : GG} {k nc ns : Nat} {y : MethodName} {n : Nat} {av : List Value} {WS : va_W → Prop} (hy : plainName y.cls = true) (hlen : (lg_sl av).length ≤ n) (hnm : y.name = "<init>")
    (body : ∀ E : VE, E.l = l → E.G = G → E.nL = n → E.R.cells = nc → E.R.slots = ns → E.meth.name = "<init>" → AOs E.st → Ctx (upE E 0 0) cc y.cls k none → V (upE E 0 0) (QRA E WS nc ns) ws 0 (lv_args 0 av) []) : ConA l G k nc ns y cc n av ws WS := by
  intro sz
  refine Met.ofW (cc := cc) (maxL := n) (ret := none) hy rfl ?_
  intro p e s m args below meth c s₁ B hml hv
  obtain ⟨rfl, hsz, hP, hK, hD0, hSO, hAO⟩ := hv
  have hts := atoms_spec (ws := wsm y cc n none) B.pre
  have hown : s.vm.findClass y.cls = some m.cls := findClass_of_methodNamed B.named
  have hin : meth.name = "<init>" := (name_of_methodNamed B.named B.method).1.trans hnm
  subst hsz
  have hD := hD0.self (sz := s.heap.size)
  have hl := lv_entry av (n := n) hlen
  rw [lg_entry_eq]
  exact body (p, l, e, (headSpec (wsm y cc n none) (rmA k nc ns)).room, s, m, av.toArray, below, meth, c, G, va_A ws s.heap.size, n, 0, 0) rfl rfl rfl rfl rfl hin hAO ⟨⟨B.exec, B.bytes, hml, hown, fun w h => hts w (List.mem_cons_of_mem _ h)⟩, B.returns, B.notSynchronized, hK, fun q h => Or.inr h, ⟨Nat.le_refl _, Nat.le_refl _⟩, ⟨Nat.zero_le _, Nat.zero_le _⟩, hSO⟩ s.heap [] _ hP hD va_S.rf hl
theorem V_runA {p : Program} {l : Launch} {e : Env} {R : Room} {s : State} {m : MethodId} {args : Array Value} {below : List Frame} {meth : Method} {c : Code} {G : GG} {A : Nat → Prop} {nL kc ks nc ns : Nat} {st0 rest : List Value} {q : Nat} {x : va_E} {WS : va_W → Prop} {H : Heap} {locs : List Loc} {la : Array Slot} {a9 : Array Value}
    (hP : va_P G.1 vwCl (ws ++ [(q, x)]) H) (hD : va_D A (ws ++ [(q, x)])) (hS : va_S A s.heap H locs) (hl : lv_has la nL ls) (hA : ∀ q : Nat, s.heap.size ≤ q → A q)
    (run : va_Run p l e R s m args below meth c H locs kc ks nc ns (F0 m pc la st0) rest (QA G WS (va_A [(q, x)] H.size) a9) (va_A [(q, x)] H.size))
    (k : ∀ w1, WS w1 → V (p, l, e, R, s, m, args, below, meth, c, G, A, nL, kc + nc, ks + ns) Q (ws ++ w1) (pc + 3) ls rest) : W p l e R s m args below meth c H locs kc ks Q (F0 m pc la st0) := by
  have hC : [ws.length].map (fun i => (ws ++ [(q, x)])[i]?) = [(q, x)].map some := by simp
  have hR : (List.range' 0 ws.length).map (fun i => (ws ++ [(q, x)])[i]?) = ws.map some := rg_pre [] ws [(q, x)]
  have hF := va_free (wc := [(q, x)]) hD hS hA [ws.length] hC
  intro T hT X
  obtain ⟨v, st₀, t, T', L, h0, X', hL, e1, e2, ⟨hv, ⟨w1, hw1, hP1, hD1⟩, hz, hk⟩, st⟩ := run T hT X
  cases hv
  rw [h0] at hz hk
  have hk' : ∀ r : Nat, r < H.size → ¬ va_A [(q, x)] H.size r → T'.heap[r]? = H[r]? := fun r h1 h2 => by rw [e1]; exact hk r h1 h2
  obtain ⟨hPn, hDn⟩ := va_join (wr := ws) (w1 := w1) hP hD [ws.length] (List.range' 0 ws.length) hC hR (nd_iff _ List.nodup_range') (fun i h1 h2 => by
    have := List.mem_range'_1.mp h1
    have := List.mem_singleton.mp h2
    omega) hk' hF (by rw [e1]; exact hP1) hD1
  have hSn : va_S A s.heap T'.heap (locs ++ L) := ⟨Nat.le_trans hS.1 (by rw [e1]; exact hz), fun r h1 h2 => by rw [hk' r (Nat.lt_of_lt_of_le h1 hS.1) (fun z => h2 (hF r z))]; exact hS.2.1 r h1 h2, fun r hr => by
      rcases List.mem_append.mp hr with h | h
      · exact hS.2.2 r h
      · exact hF _ (hL r h)⟩
  obtain ⟨t2, a1, b1⟩ := k w1 hw1 T'.heap (locs ++ L) la hPn hDn hSn hl T' rfl X'
  exact ⟨t2, st t2 a1, b1⟩
def MOkI (y : MethodName) (cc : ByteArray) (n : Nat) : Prop := Cond.code y cc n none ∈ T0 ∧ Cond.initialized y.cls ∈ T0 ∧ Cond.instanceMethod y ∈ T0 ∧ (y.cls ≠ "java/lang/invoke/MethodHandle" ∧ y.cls ≠ "java/lang/invoke/VarHandle" ∧ (parseMethodDescriptor y.desc).map (fun d => d.parameters.length) = some 0) ∧ y.name = "<init>"
/-- a constructor without arguments, its object the newest cell -/
theorem V_initA (C : Ctx (upE E kc ks) cc own kk ret) (hAO : AOs E.st) {idx : Nat} (hd : decode cc pc = .ok (.invokespecial idx, 3)) {y : MethodName} {cc' : ByteArray} {n' k' nc ns : Nat} {q : Nat} {x : va_E} {WS : va_W → Prop} (hok : MOkI y cc' n') (hlk : Cond.methodLink own idx y ∈ T0 ∨ va_Nw (.methodLinkNest own idx y RX4) E.st) (hM : ConA E.l E.G k' nc ns y cc' n' [.ref q] [(q, x)] WS) (h1 : kc + nc ≤ E.R.cells) (h2 : ks + ns ≤ E.R.slots) (hk : k' + 1 ≤ kk) (hn' : n' ≤ 40) (hroom : (st.map fun v => v.category).sum ≤ 8) (k : ∀ w1, WS w1 → V (upE E (kc + nc) (ks + ns)) Q (ws ++ w1) (pc + 3) ls st) : V (upE E kc ks) Q (ws ++ [(q, x)]) pc ls (.ref q :: st) := by
  obtain ⟨p, l, e, R, s, m, args, below, meth, c, G, A, nL, k1, k2⟩ := E
  have C : Ctx (p, l, e, R, s, m, args, below, meth, c, G, A, nL, kc, ks) cc own kk ret := C
  obtain ⟨⟨hx, hb, hml, hown, hts⟩, hr, hlocks, hK, hA, hR, hcs, hSO⟩ := C.x
  obtain ⟨hcode, hini, hinst, hd3, hnm⟩ := hok
  intro H locs la hP hD hS hl
  have hC : [ws.length].map (fun i => (ws ++ [(q, x)])[i]?) = [(q, x)].map some := by simp
  have hPc := P_sub (wc := [(q, x)]) hP [ws.length] hC
  have hDc := hD.sub (ws' := [(q, x)]) [ws.length] rfl hC
  have hF := va_free (wc := [(q, x)]) hD hS hA [ws.length] hC
  have hGI : GoodIn T0 (wsm y cc' n' none) := fun w h => (List.mem_cons.mp h).elim (fun h => h ▸ T0_good _ hcode) (fun h => T0_good _ h)
  have pre : PreS s H (va_Pc [.ref q] (fun U => U.heap.size = H.size ∧ va_P G.1 vwCl [(q, x)] U.heap ∧ va_K G.1 vwCl (tysG G) U ∧ va_D (fun _ => True) [(q, x)] ∧ SOk G (va_A [(q, x)] H.size) U ∧ AOs U)) [.ref q] := ⟨blind_ConA, fun U hU hW => ⟨rfl, by rw [hU], by rw [hU]; exact hPc, va_K.moved hW.alike hK, hDc.weaken (fun _ _ _ _ => trivial), SOk.go hSO hW (by rw [hU]; exact hS.2.1) hF, AOs.go hW hAO⟩⟩
  rcases hlk with hlk | hlk
  · have cw : CallB R s args own idx y cc' n' none (wsm y cc' n' none) (rmA k' nc ns) nc ns 0 := callB_of 0 hts hGI rfl rfl rfl (hts _ hini) (hts _ hlk) hd3 ⟨by show k' + 1 ≤ R.frames; omega, by show 8 + (n' + 11) + 60 * k' ≤ R.locals; omega⟩
    exact V_runA hP hD hS hl hA (va_runI (As := []) (rest := st) ⟨hx, hb, hml, hown, hts⟩ (hM H.size) ⟨cw, hnm, hts _ hinst⟩ pre rfl rfl hl.1 rfl (lv_room hroom) hd ⟨h1, h2⟩) k
  · have cw : va_CN R s args own idx y RX4 cc' n' none (wsm y cc' n' none) (rmA k' nc ns) nc ns 0 := va_cnB 0 hts hGI rfl rfl rfl hlk (hts _ hini) hd3 ⟨by show k' + 1 ≤ R.frames; omega, by show 8 + (n' + 11) + 60 * k' ≤ R.locals; omega⟩
    exact V_runA hP hD hS hl hA (va_runIN (As := []) (rest := st) ⟨hx, hb, hml, hown, hts⟩ (hM H.size) ⟨cw, hnm, hts _ hinst⟩ pre rfl rfl hl.1 rfl (lv_room hroom) hd ⟨h1, h2⟩) k
end RA
