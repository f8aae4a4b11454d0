/-! ===== the law: rows for the script, calls of the left and of the right world ===== -/
def Scr (E : VE) (b L : Nat) (xs : Nat → Int32) : Prop := match E with
  | (_, _, _, _, s, _, _, _, _, _, _, A, _, _, _) => va_X b L xs s s.heap ∧ b < s.heap.size ∧ ¬ A b
section LR
variable {E : VE} {Q : State → Prop} {ws ws' r : va_W} {pc : Nat} {ls : List (Nat × Value)} {st : List Value} {cc : ByteArray} {own : String} {kk : Nat} {ret : Option FieldType} {b L : Nat} {xs : Nat → Int32}
theorem V_sld (C : Ctx E cc own kk ret) (hX : Scr E b L xs) (hd : decode cc pc = .ok (.iaload, 1)) {i : Nat} (hi : i < L) (hL : L < 2 ^ 31) (k : V E Q ws (pc + 1) ls (.int (xs i) :: st)) : V E Q ws pc ls (.int (nI i) :: .ref b :: st) := by
  obtain ⟨p, l, e, R, s, m, args, below, meth, c, G, A, nL, kc, ks⟩ := E
  obtain ⟨⟨hx, hb, hml, hown, hts⟩, -⟩ := C.x
  obtain ⟨h1, h2, h3⟩ := hX
  intro H locs la hP hD hS hl
  have k := k H locs la hP hD hS hl
  refine va_sld hx hb h1 h2 h3 hS (vp_in_nI hi hL) hd ?_
  rw [nI_clamp (by omega)]
  exact k
theorem V_scrlen (C : Ctx E cc own kk ret) (hX : Scr E b L xs) (hd : decode cc pc = .ok (.arraylength, 1)) (k : V E Q ws (pc + 1) ls (.int (nI L) :: st)) : V E Q ws pc ls (.ref b :: st) := by
  obtain ⟨p, l, e, R, s, m, args, below, meth, c, G, A, nL, kc, ks⟩ := E
  obtain ⟨⟨hx, hb, hml, hown, hts⟩, -⟩ := C.x
  obtain ⟨h1, h2, h3⟩ := hX
  intro H locs la hP hD hS hl
  exact va_slen hx hb h1 h2 h3 hS hd (k H locs la hP hD hS hl)
/-- a table's switch: every one of its places -/
theorem V_tab (C : Ctx E cc own kk ret) {dflt hi : Int} {offs : Array Int} {len : Nat} (hd : decode cc pc = .ok (.tableswitch dflt 0 hi offs, len)) {x : Int32} (hsz : (offs.size : Int) = hi + 1) (hdf : ∃ tgt : Nat, (pc : Int) + dflt = (tgt : Int) ∧ V E Q ws tgt ls st) (hof : ∀ off ∈ offs.toList, ∃ tgt : Nat, (pc : Int) + off = (tgt : Int) ∧ V E Q ws tgt ls st) : V E Q ws pc ls (.int x :: st) := by
  by_cases h1 : x.toInt < 0 ∨ hi < x.toInt
  · obtain ⟨tgt, ht, k⟩ := hdf
    obtain ⟨p, l, e, R, s, m, args, below, meth, c, G, A, nL, kc, ks⟩ := E
    obtain ⟨⟨hx, hb, hml, hown, hts⟩, -⟩ := C.x
    intro H locs la hP hD hS hl
    exact lv_tableOut hx hb hd h1 ht (k H locs la hP hD hS hl)
  · have h2 : (x.toInt - 0).toNat < offs.size := by omega
    have h3 : offs[(x.toInt - 0).toNat]? = some (offs[(x.toInt - 0).toNat]'h2) := Array.getElem?_eq_getElem h2
    obtain ⟨tgt, ht, k⟩ := hof _ (by rw [Array.mem_toList_iff]; exact Array.getElem_mem h2)
    obtain ⟨p, l, e, R, s, m, args, below, meth, c, G, A, nL, kc, ks⟩ := E
    obtain ⟨⟨hx, hb, hml, hown, hts⟩, -⟩ := C.x
    intro H locs la hP hD hS hl
    exact lv_tableIn hx hb hd (by omega) (by omega) h3 ht (k H locs la hP hD hS hl)
theorem rg_pre (p w r : va_W) : (List.range' p.length w.length).map (fun i => (p ++ (w ++ r))[i]?) = w.map some := by
  apply List.ext_getElem?
  intro j
  rw [List.getElem?_map, List.getElem?_map]
  by_cases hj : j < w.length
  · rw [List.getElem?_range' (by omega), Option.map_some, List.getElem?_append_right (by omega), List.getElem?_append_left (by omega), show p.length + 1 * j - p.length = j by omega, List.getElem?_eq_getElem hj]
    rfl
  · rw [List.getElem?_eq_none (by simp; omega), List.getElem?_eq_none (by omega)]
    rfl
theorem V_callL (C : Ctx E cc own kk ret) {idx : Nat} (hd : decode cc pc = .ok (.invokevirtual idx, 3)) {y : MethodName} {cc' : ByteArray} {n' na k' : Nat} {ret' : Option FieldType} {b : Nat} {As rest st0 : List Value} {v : Value} {q0 ci : Nat} {fs : List Value} {q9 : vw_C}
    (hok : MOkV y cc' n' ret' na) (hlk : Cond.methodLink own idx y ∈ T0) (hM : Con E.l E.G k' y cc' n' ret' (.ref b :: As) ws (some v) ws') (hst : st0 = As.reverse ++ .ref b :: rest) (ha : ws'.map Prod.fst = ws.map Prod.fst) (hrc : ws[q0]? = some (b, .inr (ci, fs))) (hcl : vwCl[ci]? = some q9) (hcy : q9.1 = y.cls) (hn : As.length = na) (hk : k' + 1 ≤ kk) (hn' : n' ≤ 40) (hroom : (rest.map fun v => v.category).sum ≤ 8)
    (k : V E Q (ws' ++ r) (pc + 3) ls (v :: rest)) : V E Q (ws ++ r) pc ls st0 :=
  V_callV C hd hok hlk hM (List.range' 0 ws.length) hst (rg_pre [] ws r) (nd_iff _ List.nodup_range') ha (setm_left (by have := congrArg List.length ha; simp only [List.length_map] at this; exact this.symm)) hrc hcl hcy hn hk hn' hroom k
theorem V_callR (C : Ctx E cc own kk ret) {idx : Nat} (hd : decode cc pc = .ok (.invokevirtual idx, 3)) {y : MethodName} {cc' : ByteArray} {n' na k' : Nat} {ret' : Option FieldType} {b : Nat} {As rest st0 : List Value} {v : Value} {q0 ci : Nat} {fs : List Value} {q9 : vw_C}
    (hok : MOkV y cc' n' ret' na) (hlk : Cond.methodLink own idx y ∈ T0) (hM : Con E.l E.G k' y cc' n' ret' (.ref b :: As) ws (some v) ws') (hst : st0 = As.reverse ++ .ref b :: rest) (ha : ws'.map Prod.fst = ws.map Prod.fst) (hrc : ws[q0]? = some (b, .inr (ci, fs))) (hcl : vwCl[ci]? = some q9) (hcy : q9.1 = y.cls) (hn : As.length = na) (hk : k' + 1 ≤ kk) (hn' : n' ≤ 40) (hroom : (rest.map fun v => v.category).sum ≤ 8)
    (k : V E Q (r ++ ws') (pc + 3) ls (v :: rest)) : V E Q (r ++ ws) pc ls st0 :=
  V_callV C hd hok hlk hM (List.range' r.length ws.length) hst (by have := rg_pre r ws []; rw [List.append_nil] at this; exact this) (nd_iff _ List.nodup_range') ha (by have := setm_pre2 r ws ws' [] (by have := congrArg List.length ha; simp only [List.length_map] at this; exact this.symm); rw [List.append_nil, List.append_nil] at this; exact this) hrc hcl hcy hn hk hn' hroom k
end LR
section LA
variable {E : VE} {Q : State → Prop} {ws : va_W} {pc : Nat} {st : List Value} {kk : Nat} {b L i x m : Nat} {xs : Nat → Int32}
/-- the law's locals -/
abbrev lls (b x m i : Nat) : List (Nat × Value) := [(0, .ref b), (1, .ref x), (2, .ref m), (3, .int (nI i))]
/-- script[i + j] -/
theorem V_arg (C : Ctx E code RL kk ret) (hn : E.nL = 4) (hX : Scr E b L xs) (hi : i + 6 ≤ L) (hL : L ≤ 3072) (j : Nat) (hj : j ≤ 5) (hd : dec code pc [(.aload_n 0, 1), (.iload_n 3, 1), (.iconst (Int.ofNat j), 1), (.iadd, 1), (.iaload, 1)]) (k : V E Q ws (pc + 5) (lls b x m i) (.int (xs (i + j)) :: st)) : V E Q ws pc (lls b x m i) st := by
  obtain ⟨d1, d2, d3, d4, d5, -⟩ := hd
  refine V_pb C hn [(.aload_n 0, 1), (.iload_n 3, 1), (.iconst (Int.ofNat j), 1), (.iadd, 1)] (pc' := pc + 4) (ls' := lls b x m i) (st' := .int (nI i + nI j) :: .ref b :: st) ⟨d1, d2, d3, d4, trivial⟩ rfl rfl ?_
  rw [nI_add]
  exact V_sld C hX d5 (by omega) (by omega) k
end LA
def bl (x : Int32) : Int32 := if x = 0 then 0 else 1
section LB
variable {E : VE} {Q : State → Prop} {ws : va_W} {pc : Nat} {ls : List (Nat × Value)} {st : List Value} {cc : ByteArray} {own : String} {kk : Nat} {ret : Option FieldType}
/-- x != 0 as a boolean -/
theorem V_bool (C : Ctx E cc own kk ret) {x : Int32} (h1 : decode cc pc = .ok (.ifCond .eq 7, 3)) (h2 : decode cc (pc + 3) = .ok (.iconst 1, 1)) (h3 : decode cc (pc + 4) = .ok (.goto 4, 3)) (h4 : decode cc (pc + 7) = .ok (.iconst 0, 1)) (k : V E Q ws (pc + 8) ls (.int (bl x) :: st)) : V E Q ws pc ls (.int x :: st) := by
  refine V_if_eq C (off := 7) (tgt := pc + 7) h1 (by omega) (o1 := some ()) (o2 := some ()) (out := ()) (by split <;> rfl) (fun q _ => ?_) (fun q _ => ?_)
  · refine V_p C h4 rfl ?_
    rw [show bl x = 0 from if_pos q] at k
    exact k
  · refine V_p C h2 rfl ?_
    refine V_goto C (off := 4) (tgt := pc + 8) h3 (by omega) ?_
    rw [show bl x = 1 from if_neg q] at k
    exact k
theorem lg_self {r : Int64} : lg_cmp r r = (0 : Int32) := by
  unfold lg_cmp
  simp
end LB
