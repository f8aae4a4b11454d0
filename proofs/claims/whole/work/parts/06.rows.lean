/-! ===== blocks, calls within one world, arraycopy ===== -/
section VS
variable {E : VE} {Q : State → Prop} {ws ws' : va_W} {pc : Nat} {ls ls' : List (Nat × Value)} {st st' : List Value} {cc : ByteArray} {own : String} {kk : Nat} {ret : Option FieldType} {O : Type} {o o1 o2 : Option O} {out : O}
theorem V_pb (C : Ctx E cc own kk ret) {nL : Nat} (hn : E.nL = nL) (L : List (Instr × Nat)) {pc' : Nat} (hd : dec cc pc L) (h : psts nL L ls st = some (ls', st')) (hp : pc + lens L = pc') (k : V E Q ws pc' ls' st') : V E Q ws pc ls st := by
  subst hn
  exact V_ps C L hd h hp k
theorem range_get (ws : va_W) : (List.range ws.length).map (fun i => ws[i]?) = ws.map some := by
  apply List.ext_getElem?
  intro k
  simp only [List.getElem?_map]
  by_cases h : k < ws.length
  · simp [h]
  · simp [h]
theorem nd_iff : ∀ (l : List Nat), l.Nodup → va_nd l = true
  | [], _ => rfl
  | a :: l, h => by
    rw [List.nodup_cons] at h
    simp [va_nd, h.1, nd_iff l h.2]
theorem setm_pre : ∀ (pre ws cs : va_W), ws.length = cs.length → setm (pre ++ ws) (List.range' pre.length ws.length) cs = pre ++ cs
  | pre, [], [], _ => by simp [setm]
  | pre, w :: ws, c :: cs, h => by
    have e1 : (pre ++ w :: ws).set pre.length c = (pre ++ [c]) ++ ws := by simp [List.set_append]
    show setm (pre ++ w :: ws) (List.range' pre.length (ws.length + 1)) (c :: cs) = _
    rw [List.range'_succ]
    show setm ((pre ++ w :: ws).set pre.length c) (List.range' (pre.length + 1) ws.length) cs = _
    rw [e1]
    have := setm_pre (pre ++ [c]) ws cs (by simpa using h)
    simp only [List.length_append, List.length_cons, List.length_nil, Nat.zero_add] at this
    rw [this]
    simp
  | pre, [], c :: cs, h => by simp at h
  | pre, w :: ws, [], h => by simp at h
theorem setm_all {ws cs : va_W} (h : cs.map Prod.fst = ws.map Prod.fst) : setm ws (List.range ws.length) cs = cs := by
  have hl : ws.length = cs.length := by
    have := congrArg List.length h
    simpa using this.symm
  have := setm_pre [] ws cs hl
  rw [List.range_eq_range']
  simpa using this
theorem setm_same : ∀ {is : List Nat} {ws wc : va_W}, is.map (fun i => ws[i]?) = wc.map some → setm ws is wc = ws
  | [], ws, wc, _ => by cases wc <;> rfl
  | i :: is, ws, [], _ => rfl
  | i :: is, ws, c :: cs, h => by
    simp only [List.map_cons, List.cons.injEq] at h
    have e : ws.set i c = ws := by
      apply List.ext_getElem?
      intro k
      by_cases hk : i = k
      · subst hk
        have hlt : i < ws.length := (List.getElem?_eq_some_iff.mp h.1).1
        rw [List.getElem?_set_self hlt, h.1]
      · rw [List.getElem?_set_ne hk]
    show setm (ws.set i c) is cs = ws
    rw [e]
    exact setm_same h.2
/-- a call of the same world -/
theorem V_callV0 (C : Ctx E cc own kk ret) {idx : Nat} (hd : decode cc pc = .ok (.invokevirtual idx, 3)) {y : MethodName} {cc' : ByteArray} {n' na k' : Nat} {ret' : Option FieldType} {b : Nat} {As rest st0 : List Value} {rv : Option Value} {q0 ci : Nat} {fs : List Value} {q9 : vw_C}
    (hok : MOkV y cc' n' ret' na) (hlk : Cond.methodLink own idx y ∈ T0) (hM : Con E.l E.G k' y cc' n' ret' (.ref b :: As) ws rv ws') (hst : st0 = As.reverse ++ .ref b :: rest) (ha : ws'.map Prod.fst = ws.map Prod.fst) (hrc : ws[q0]? = some (b, .inr (ci, fs))) (hcl : vwCl[ci]? = some q9) (hcy : q9.1 = y.cls) (hn : As.length = na) (hk : k' + 1 ≤ kk) (hn' : n' ≤ 40) (hroom : (rest.map fun v => v.category).sum ≤ 8)
    (kk : V E Q ws' (pc + 3) ls (rv.toList ++ rest)) : V E Q ws pc ls st0 :=
  V_callV C hd hok hlk hM (List.range ws.length) hst (range_get ws) (nd_iff _ List.nodup_range) ha (setm_all ha) hrc hcl hcy hn hk hn' hroom kk
theorem V_callS0 (C : Ctx E cc own kk ret) {idx : Nat} (hd : decode cc pc = .ok (.invokestatic idx, 3)) {y : MethodName} {cc' : ByteArray} {n' na k' : Nat} {ret' : Option FieldType} {As rest st0 : List Value} {rv : Option Value}
    (hok : MOkS y cc' n' ret' na) (hlk : Cond.methodLink own idx y ∈ T0) (hM : Con E.l E.G k' y cc' n' ret' As ws rv ws') (hst : st0 = As.reverse ++ rest) (ha : ws'.map Prod.fst = ws.map Prod.fst) (hn : As.length = na) (hk : k' + 1 ≤ kk) (hn' : n' ≤ 40) (hroom : (rest.map fun v => v.category).sum ≤ 8)
    (kk : V E Q ws' (pc + 3) ls (rv.toList ++ rest)) : V E Q ws pc ls st0 :=
  V_callS C hd hok hlk hM (List.range ws.length) hst (range_get ws) (nd_iff _ List.nodup_range) ha (setm_all ha) hn hk hn' hroom kk
/-- a call that changes nothing -/
theorem V_callVp (C : Ctx E cc own kk ret) {idx : Nat} (hd : decode cc pc = .ok (.invokevirtual idx, 3)) {y : MethodName} {cc' : ByteArray} {n' na k' : Nat} {ret' : Option FieldType} {b : Nat} {As rest st0 : List Value} {wc : va_W} {rv : Option Value} {q0 ci : Nat} {fs : List Value} {q9 : vw_C}
    (hok : MOkV y cc' n' ret' na) (hlk : Cond.methodLink own idx y ∈ T0) (hM : Con E.l E.G k' y cc' n' ret' (.ref b :: As) wc rv wc) (is : List Nat) (hst : st0 = As.reverse ++ .ref b :: rest) (hC : is.map (fun i => ws[i]?) = wc.map some) (hnd : va_nd is = true) (hrc : wc[q0]? = some (b, .inr (ci, fs))) (hcl : vwCl[ci]? = some q9) (hcy : q9.1 = y.cls) (hn : As.length = na) (hk : k' + 1 ≤ kk) (hn' : n' ≤ 40) (hroom : (rest.map fun v => v.category).sum ≤ 8)
    (kk : V E Q ws (pc + 3) ls (rv.toList ++ rest)) : V E Q ws pc ls st0 :=
  V_callV C hd hok hlk hM is hst hC hnd rfl (setm_same hC) hrc hcl hcy hn hk hn' hroom kk
theorem V_callSp (C : Ctx E cc own kk ret) {idx : Nat} (hd : decode cc pc = .ok (.invokestatic idx, 3)) {y : MethodName} {cc' : ByteArray} {n' na k' : Nat} {ret' : Option FieldType} {As rest st0 : List Value} {wc : va_W} {rv : Option Value}
    (hok : MOkS y cc' n' ret' na) (hlk : Cond.methodLink own idx y ∈ T0) (hM : Con E.l E.G k' y cc' n' ret' As wc rv wc) (is : List Nat) (hst : st0 = As.reverse ++ rest) (hC : is.map (fun i => ws[i]?) = wc.map some) (hnd : va_nd is = true) (hn : As.length = na) (hk : k' + 1 ≤ kk) (hn' : n' ≤ 40) (hroom : (rest.map fun v => v.category).sum ≤ 8)
    (kk : V E Q ws (pc + 3) ls (rv.toList ++ rest)) : V E Q ws pc ls st0 :=
  V_callS C hd hok hlk hM is hst hC hnd rfl (setm_same hC) hn hk hn' hroom kk
/-! System.arraycopy -/
def cpk (sp dp n : Int32) (n0 n1 : Nat) : Bool := (!(decide (sp < 0)) && !(decide (dp < 0)) && !(decide (n < 0))) && (decide (ix sp + ix n ≤ n0) && decide (ix dp + ix n ≤ n1))
def cpa {α : Type} (f g : Nat → α) (sp dp n : Int32) : Nat → α := va_cpy f g (ix sp) (ix dp) (ix n)
theorem cpk_spec {sp dp n : Int32} {n0 n1 : Nat} (h : cpk sp dp n n0 n1 = true) : ¬ sp < 0 ∧ ¬ dp < 0 ∧ ¬ n < 0 ∧ sp.toNatClampNeg + n.toNatClampNeg ≤ n0 ∧ dp.toNatClampNeg + n.toNatClampNeg ≤ n1 := by
  unfold cpk ix at h
  simp only [Bool.and_eq_true, Bool.not_eq_true', decide_eq_true_eq, decide_eq_false_iff_not] at h
  exact ⟨h.1.1.1, h.1.1.2, h.1.2, h.2.1, h.2.2⟩
theorem nfw : nativeFrameWords "java/lang/System" "arraycopy" 5 ≤ 40 := by decide
theorem V_acpI (C : Ctx E cc own kk ret) {idx : Nat} (hd : decode cc pc = .ok (.invokestatic idx, 3)) (hlk : Cond.methodLink own idx arraycopyName ∈ T0) (q0 q1 : Nat) {a0 a1 n0 n1 : Nat} {f g : Nat → Int32} {sp dp n : Int32} (he0 : ws[q0]? = some (a0, .inl (E.G.cA 0, n0, .inl f))) (he1 : ws[q1]? = some (a1, .inl (E.G.cA 0, n1, .inl g))) (h : gd (cpk sp dp n n0 n1) o = some out) (hw : ws.set q1 (a1, .inl (E.G.cA 0, n1, .inl (cpa f g sp dp n))) = ws') (hk : 1 ≤ kk) (hroom : (st.map fun v => v.category).sum ≤ 8) (k : o = some out → V E Q ws' (pc + 3) ls st) : V E Q ws pc ls (.int n :: .int dp :: .ref a1 :: .int sp :: .ref a0 :: st) := by
  obtain ⟨p, l, e, R, s, m, args, below, meth, c, G, A, nL, kc, ks⟩ := E
  obtain ⟨⟨hx, hb, hml, hown, hts⟩, hr, hlocks, hK, hA, hR, hcs, hSO⟩ := C.x
  obtain ⟨h1, h2⟩ := gd_some h
  obtain ⟨g1, g2, g3, g4, g5⟩ := cpk_spec h1
  subst hw
  intro H locs la hP hD hS hl
  exact va_copyi hx hb (hml.trans hl.1.symm) hown (hts _ hlk) (hts _ wk_acp_n) (hts _ wk_acp_s) (hts _ wk_acp_i) hK hP hD hS q0 q1 0 0 he0 he1 rfl rfl rfl g1 g2 g3 g4 g5 (fun _ _ => rfl) (by omega) (by have := nfw; omega) hd (fun H1 locs1 hP1 hD1 hS1 => k h2 H1 locs1 la hP1 hD1 hS1 hl)
theorem V_acpL (C : Ctx E cc own kk ret) {idx : Nat} (hd : decode cc pc = .ok (.invokestatic idx, 3)) (hlk : Cond.methodLink own idx arraycopyName ∈ T0) (q0 q1 : Nat) {a0 a1 n0 n1 : Nat} {f g : Nat → Int64} {sp dp n : Int32} (he0 : ws[q0]? = some (a0, .inl (E.G.cA 1, n0, .inr (.inl f)))) (he1 : ws[q1]? = some (a1, .inl (E.G.cA 1, n1, .inr (.inl g)))) (h : gd (cpk sp dp n n0 n1) o = some out) (hw : ws.set q1 (a1, .inl (E.G.cA 1, n1, .inr (.inl (cpa f g sp dp n)))) = ws') (hk : 1 ≤ kk) (hroom : (st.map fun v => v.category).sum ≤ 8) (k : o = some out → V E Q ws' (pc + 3) ls st) : V E Q ws pc ls (.int n :: .int dp :: .ref a1 :: .int sp :: .ref a0 :: st) := by
  obtain ⟨p, l, e, R, s, m, args, below, meth, c, G, A, nL, kc, ks⟩ := E
  obtain ⟨⟨hx, hb, hml, hown, hts⟩, hr, hlocks, hK, hA, hR, hcs, hSO⟩ := C.x
  obtain ⟨h1, h2⟩ := gd_some h
  obtain ⟨g1, g2, g3, g4, g5⟩ := cpk_spec h1
  subst hw
  intro H locs la hP hD hS hl
  exact va_copyl hx hb (hml.trans hl.1.symm) hown (hts _ hlk) (hts _ wk_acp_n) (hts _ wk_acp_s) (hts _ wk_acp_i) hK hP hD hS q0 q1 1 1 he0 he1 rfl rfl rfl g1 g2 g3 g4 g5 (fun _ _ => rfl) (by omega) (by have := nfw; omega) hd (fun H1 locs1 hP1 hD1 hS1 => k h2 H1 locs1 la hP1 hD1 hS1 hl)
end VS
