/-! ===== rows of the heap, branches, calls, ends ===== -/
def FOk (own : String) (idx ci k : Nat) : Prop := ∃ (C : String) (T : u_T) (N : Nat), vwCl[ci]? = some (C, T, N) ∧ k < N ∧ Cond.fieldLink own idx (T k).1 (T k).2.1 (T k).2.2.1 ∈ T0 ∧ ∀ w ∈ u_ws C T N, w ∈ T0
def POk (own : String) (idx ci k : Nat) (ty : FieldType) : Prop := ∃ (C : String) (T : u_T) (N : Nat) (ty0 : Nat → FieldType), vwCl[ci]? = some (C, T, N) ∧ k < N ∧ Cond.fieldLink own idx (T k).1 (T k).2.1 (T k).2.2.1 ∈ T0 ∧ (∀ w ∈ u_ws C T N, w ∈ T0) ∧ (∀ k, k < N → parseFieldDescriptor (T k).2.2.1 = some (ty0 k)) ∧ (∀ a, a < N → ∀ b, b < N → a ≠ b → (T a).2.1 ≠ (T b).2.1) ∧ (T k).2.2.2 = false ∧ parseFieldDescriptor (T k).2.2.1 = some ty
section VR
variable {E : VE} {Q : State → Prop} {ws ws' : va_W} {pc : Nat} {ls ls' : List (Nat × Value)} {st st' : List Value} {cc : ByteArray} {own : String} {kk : Nat} {ret : Option FieldType} {O : Type} {o o1 o2 : Option O} {out : O}
theorem V_get (C : Ctx E cc own kk ret) {idx : Nat} (hd : decode cc pc = .ok (.getfield idx, 3)) (q0 k : Nat) {a ci : Nat} {fs : List Value} {v : Value} (hf : FOk own idx ci k) (he : ws[q0]? = some (a, .inr (ci, fs))) (hv : fs[k]? = some v) (kk : V E Q ws (pc + 3) ls (v :: st)) : V E Q ws pc ls (.ref a :: st) := by
  obtain ⟨p, l, e, R, s, m, args, below, meth, c, G, A, nL, kc, ks⟩ := E
  obtain ⟨⟨hx, hb, hml, hown, hts⟩, hr, hlocks, hK, hA, hR, hcs⟩ := C.x
  obtain ⟨C9, T9, N9, hc, hk, hl9, hin⟩ := hf
  intro H locs la hP hD hS hl
  exact va_get (C := C9) (T := T9) (N := N9) hx hb hts hin hown hK hP q0 he hc k hk (hts _ hl9) (fun _ h => h) hv hd (kk H locs la hP hD hS hl)
theorem V_put (C : Ctx E cc own kk ret) {idx : Nat} (hd : decode cc pc = .ok (.putfield idx, 3)) (q0 k : Nat) {a ci : Nat} {fs : List Value} {v : Value} {ty : FieldType} (hf : POk own idx ci k ty) (he : ws[q0]? = some (a, .inr (ci, fs))) (hn : narrow ty v = v) (hfit : fits ty v = true) (hlen : k < fs.length) (hw : ws.set q0 (a, .inr (ci, fs.set k v)) = ws') (kk : V E Q ws' (pc + 3) ls st) : V E Q ws pc ls (v :: .ref a :: st) := by
  obtain ⟨p, l, e, R, s, m, args, below, meth, c, G, A, nL, kc, ks⟩ := E
  obtain ⟨⟨hx, hb, hml, hown, hts⟩, hr, hlocks, hK, hA, hR, hcs⟩ := C.x
  obtain ⟨C9, T9, N9, ty0, hc, hk, hl9, hin, hty, hnm, hfin, hd9⟩ := hf
  subst hw
  intro H locs la hP hD hS hl
  exact va_put (C := C9) (T := T9) (N := N9) hx hb hts hin ty0 hty hnm hown hK hP hD hS q0 he hc k hk (hts _ hl9) (fun _ h => h) hfin hd9 hn hfit hlen hd (fun H1 locs1 hP1 hD1 hS1 => kk H1 locs1 la hP1 hD1 hS1 hl)
theorem V_iald (C : Ctx E cc own kk ret) (hd : decode cc pc = .ok (.iaload, 1)) (q0 : Nat) {a n : Nat} {f : Nat → Int32} {i : Int32} (he : ws[q0]? = some (a, .inl (E.G.cA 0, n, .inl f))) (h : gd (inb i n) o = some out) (kk : o = some out → V E Q ws (pc + 1) ls (.int (f (ix i)) :: st)) : V E Q ws pc ls (.int i :: .ref a :: st) := by
  obtain ⟨p, l, e, R, s, m, args, below, meth, c, G, A, nL, kc, ks⟩ := E
  obtain ⟨⟨hx, hb, hml, hown, hts⟩, hr, hlocks, hK, hA, hR, hcs⟩ := C.x
  obtain ⟨h1, h2⟩ := gd_some h
  intro H locs la hP hD hS hl
  exact va_iald hx hb hK hP q0 0 he rfl (inb_vp h1) hd (kk h2 H locs la hP hD hS hl)
theorem V_lald (C : Ctx E cc own kk ret) (hd : decode cc pc = .ok (.laload, 1)) (q0 : Nat) {a n : Nat} {f : Nat → Int64} {i : Int32} (he : ws[q0]? = some (a, .inl (E.G.cA 1, n, .inr (.inl f)))) (h : gd (inb i n) o = some out) (kk : o = some out → V E Q ws (pc + 1) ls (.long (f (ix i)) :: st)) : V E Q ws pc ls (.int i :: .ref a :: st) := by
  obtain ⟨p, l, e, R, s, m, args, below, meth, c, G, A, nL, kc, ks⟩ := E
  obtain ⟨⟨hx, hb, hml, hown, hts⟩, hr, hlocks, hK, hA, hR, hcs⟩ := C.x
  obtain ⟨h1, h2⟩ := gd_some h
  intro H locs la hP hD hS hl
  exact va_lald hx hb hK hP q0 1 he rfl (inb_vp h1) hd (kk h2 H locs la hP hD hS hl)
/-- a row of references: t0 is the place of its class in tysG -/
theorem V_aald (C : Ctx E cc own kk ret) (hd : decode cc pc = .ok (.aaload, 1)) (q0 t0 : Nat) {a n : Nat} {f : Nat → Option Nat} {i : Int32} {cA : ClassId} {D : String} {b : Nat} (he : ws[q0]? = some (a, .inl (cA, n, .inr (.inr (.inr (.inr f)))))) (ht : (tysG E.G)[t0]? = some (cA, .object D)) (h : gd (inb i n) o = some out) (hb9 : o = some out → f (ix i) = some b) (kk : o = some out → V E Q ws (pc + 1) ls (.ref b :: st)) : V E Q ws pc ls (.int i :: .ref a :: st) := by
  obtain ⟨p, l, e, R, s, m, args, below, meth, c, G, A, nL, kc, ks⟩ := E
  obtain ⟨⟨hx, hb, hml, hown, hts⟩, hr, hlocks, hK, hA, hR, hcs⟩ := C.x
  obtain ⟨h1, h2⟩ := gd_some h
  intro H locs la hP hD hS hl
  refine va_aldq hx hb hK hP q0 t0 he ht (inb_vp h1) hd ?_
  have e9 : f i.toNatClampNeg = some b := hb9 h2
  rw [e9]
  exact kk h2 H locs la hP hD hS hl
theorem V_iast (C : Ctx E cc own kk ret) (hd : decode cc pc = .ok (.iastore, 1)) (q0 : Nat) {a n : Nat} {f : Nat → Int32} {i x : Int32} (he : ws[q0]? = some (a, .inl (E.G.cA 0, n, .inl f))) (h : gd (inb i n) o = some out) (hw : ws.set q0 (a, .inl (E.G.cA 0, n, .inl (upd f (ix i) x))) = ws') (kk : o = some out → V E Q ws' (pc + 1) ls st) : V E Q ws pc ls (.int x :: .int i :: .ref a :: st) := by
  obtain ⟨p, l, e, R, s, m, args, below, meth, c, G, A, nL, kc, ks⟩ := E
  obtain ⟨⟨hx, hb, hml, hown, hts⟩, hr, hlocks, hK, hA, hR, hcs⟩ := C.x
  obtain ⟨h1, h2⟩ := gd_some h
  subst hw
  intro H locs la hP hD hS hl
  exact va_iast hx hb hK hP hD hS q0 0 he rfl (inb_vp h1) hd (fun H1 locs1 hP1 hD1 hS1 => kk h2 H1 locs1 la hP1 hD1 hS1 hl)
theorem V_last (C : Ctx E cc own kk ret) (hd : decode cc pc = .ok (.lastore, 1)) (q0 : Nat) {a n : Nat} {f : Nat → Int64} {i : Int32} {x : Int64} (he : ws[q0]? = some (a, .inl (E.G.cA 1, n, .inr (.inl f)))) (h : gd (inb i n) o = some out) (hw : ws.set q0 (a, .inl (E.G.cA 1, n, .inr (.inl (vp_updL f (ix i) x)))) = ws') (kk : o = some out → V E Q ws' (pc + 1) ls st) : V E Q ws pc ls (.long x :: .int i :: .ref a :: st) := by
  obtain ⟨p, l, e, R, s, m, args, below, meth, c, G, A, nL, kc, ks⟩ := E
  obtain ⟨⟨hx, hb, hml, hown, hts⟩, hr, hlocks, hK, hA, hR, hcs⟩ := C.x
  obtain ⟨h1, h2⟩ := gd_some h
  subst hw
  intro H locs la hP hD hS hl
  exact va_last hx hb hK hP hD hS q0 1 he rfl (inb_vp h1) hd (fun H1 locs1 hP1 hD1 hS1 => kk h2 H1 locs1 la hP1 hD1 hS1 hl)
theorem V_alen (C : Ctx E cc own kk ret) (hd : decode cc pc = .ok (.arraylength, 1)) (q0 t0 : Nat) {a n : Nat} {cA : ClassId} {ty : FieldType} {x : (Nat → Int32) ⊕ (Nat → Int64) ⊕ (Nat → UInt32) ⊕ (Nat → UInt64) ⊕ (Nat → Option Nat)} (he : ws[q0]? = some (a, .inl (cA, n, x))) (ht : (tysG E.G)[t0]? = some (cA, ty)) {v : Int32} (hv : v = Int32.ofNat n) (kk : V E Q ws (pc + 1) ls (.int v :: st)) : V E Q ws pc ls (.ref a :: st) := by
  obtain ⟨p, l, e, R, s, m, args, below, meth, c, G, A, nL, kc, ks⟩ := E
  obtain ⟨⟨hx, hb, hml, hown, hts⟩, hr, hlocks, hK, hA, hR, hcs⟩ := C.x
  intro H locs la hP hD hS hl
  exact va_alen hx hb hK hP q0 t0 he ht hv.symm hd (kk H locs la hP hD hS hl)
/-! divisions: by a number that isn't 0 -/
theorem V_idiv (C : Ctx E cc own kk ret) (hd : decode cc pc = .ok (.idiv, 1)) {x y : Int32} (hy : ¬ y = 0) (kk : V E Q ws (pc + 1) ls (.int (x / y) :: st)) : V E Q ws pc ls (.int y :: .int x :: st) := by
  obtain ⟨p, l, e, R, s, m, args, below, meth, c, G, A, nL, kc, ks⟩ := E
  obtain ⟨⟨hx, hb, hml, hown, hts⟩, -⟩ := C.x
  intro H locs la hP hD hS hl
  exact lv_idiv hx hb hd hy (kk H locs la hP hD hS hl)
theorem V_irem (C : Ctx E cc own kk ret) (hd : decode cc pc = .ok (.irem, 1)) {x y : Int32} (hy : ¬ y = 0) (kk : V E Q ws (pc + 1) ls (.int (irm x y) :: st)) : V E Q ws pc ls (.int y :: .int x :: st) := by
  obtain ⟨p, l, e, R, s, m, args, below, meth, c, G, A, nL, kc, ks⟩ := E
  obtain ⟨⟨hx, hb, hml, hown, hts⟩, -⟩ := C.x
  intro H locs la hP hD hS hl
  exact lv_irem hx hb hd hy (kk H locs la hP hD hS hl)
theorem V_ldiv (C : Ctx E cc own kk ret) (hd : decode cc pc = .ok (.ldiv, 1)) {x y : Int64} (hy : ¬ y = 0) (kk : V E Q ws (pc + 1) ls (.long (x / y) :: st)) : V E Q ws pc ls (.long y :: .long x :: st) := by
  obtain ⟨p, l, e, R, s, m, args, below, meth, c, G, A, nL, kc, ks⟩ := E
  obtain ⟨⟨hx, hb, hml, hown, hts⟩, -⟩ := C.x
  intro H locs la hP hD hS hl
  exact lv_ldiv hx hb hd hy (kk H locs la hP hD hS hl)
theorem V_lrem (C : Ctx E cc own kk ret) (hd : decode cc pc = .ok (.lrem, 1)) {x y : Int64} (hy : ¬ y = 0) (kk : V E Q ws (pc + 1) ls (.long (lrm x y) :: st)) : V E Q ws pc ls (.long y :: .long x :: st) := by
  obtain ⟨p, l, e, R, s, m, args, below, meth, c, G, A, nL, kc, ks⟩ := E
  obtain ⟨⟨hx, hb, hml, hown, hts⟩, -⟩ := C.x
  intro H locs la hP hD hS hl
  exact lv_lrem hx hb hd hy (kk H locs la hP hD hS hl)
/-- a divisor that is looked at: y = 0 answers nothing -/
theorem dv_some {α : Type} {c : Prop} [Decidable c] {o : Option α} {x : α} (h : (if c then none else o) = some x) : ¬ c ∧ o = some x := by
  by_cases hc : c
  · rw [if_pos hc] at h
    cases h
  · rw [if_neg hc] at h
    exact ⟨hc, h⟩
/-! constants of the pool -/
theorem V_ldc (C : Ctx E cc own kk ret) {idx : Nat} (hd : decode cc pc = .ok (.ldc idx, 2)) {v : Int32} (hc : Cond.constant own idx v ∈ T0) (kk : V E Q ws (pc + 2) ls (.int v :: st)) : V E Q ws pc ls st := by
  obtain ⟨p, l, e, R, s, m, args, below, meth, c, G, A, nL, kc, ks⟩ := E
  obtain ⟨⟨hx, hb, hml, hown, hts⟩, -⟩ := C.x
  intro H locs la hP hD hS hl
  exact lv_ldc hx hb hown (hts _ hc) hd (kk H locs la hP hD hS hl)
theorem V_ldcw (C : Ctx E cc own kk ret) {idx : Nat} (hd : decode cc pc = .ok (.ldc_w idx, 3)) {v : Int32} (hc : Cond.constant own idx v ∈ T0) (kk : V E Q ws (pc + 3) ls (.int v :: st)) : V E Q ws pc ls st := by
  obtain ⟨p, l, e, R, s, m, args, below, meth, c, G, A, nL, kc, ks⟩ := E
  obtain ⟨⟨hx, hb, hml, hown, hts⟩, -⟩ := C.x
  intro H locs la hP hD hS hl
  exact lv_ldcw hx hb hown (hts _ hc) hd (kk H locs la hP hD hS hl)
theorem V_ldc2 (C : Ctx E cc own kk ret) {idx : Nat} (hd : decode cc pc = .ok (.ldc2_w idx, 3)) {v : Int64} (hc : Cond.constantLong own idx v ∈ T0) (kk : V E Q ws (pc + 3) ls (.long v :: st)) : V E Q ws pc ls st := by
  obtain ⟨p, l, e, R, s, m, args, below, meth, c, G, A, nL, kc, ks⟩ := E
  obtain ⟨⟨hx, hb, hml, hown, hts⟩, -⟩ := C.x
  intro H locs la hP hD hS hl
  exact lv_ldc2 hx hb hown (hts _ hc) hd (kk H locs la hP hD hS hl)
theorem V_goto (C : Ctx E cc own kk ret) {off : Int} (hd : decode cc pc = .ok (.goto off, 3)) {tgt : Nat} (ht : (pc : Int) + off = (tgt : Int)) (kk : V E Q ws tgt ls st) : V E Q ws pc ls st := by
  obtain ⟨p, l, e, R, s, m, args, below, meth, c, G, A, nL, kc, ks⟩ := E
  obtain ⟨⟨hx, hb, hml, hown, hts⟩, -⟩ := C.x
  intro H locs la hP hD hS hl
  exact lv_goto hx hb hd ht (kk H locs la hP hD hS hl)
theorem V_if_eq (C : Ctx E cc own kk ret) {off : Int} (hd : decode cc pc = .ok (.ifCond .eq off, 3)) {tgt : Nat} (ht : (pc : Int) + off = (tgt : Int)) {x : Int32} (h : (if x = 0 then o1 else o2) = some out) (kt : x = 0 → o1 = some out → V E Q ws tgt ls st) (kf : ¬ x = 0 → o2 = some out → V E Q ws (pc + 3) ls st) : V E Q ws pc ls (.int x :: st) := by
  obtain ⟨p, l, e, R, s, m, args, below, meth, c, G, A, nL, kc, ks⟩ := E
  obtain ⟨⟨hx, hb, hml, hown, hts⟩, -⟩ := C.x
  intro H locs la hP hD hS hl
  exact lv_if_eq hx hb hd ht (fun h9 => kt h9 (by rw [if_pos h9] at h; exact h) H locs la hP hD hS hl) (fun h9 => kf h9 (by rw [if_neg h9] at h; exact h) H locs la hP hD hS hl)
theorem V_if_ne (C : Ctx E cc own kk ret) {off : Int} (hd : decode cc pc = .ok (.ifCond .ne off, 3)) {tgt : Nat} (ht : (pc : Int) + off = (tgt : Int)) {x : Int32} (h : (if x = 0 then o1 else o2) = some out) (kf : x = 0 → o1 = some out → V E Q ws (pc + 3) ls st) (kt : ¬ x = 0 → o2 = some out → V E Q ws tgt ls st) : V E Q ws pc ls (.int x :: st) := by
  obtain ⟨p, l, e, R, s, m, args, below, meth, c, G, A, nL, kc, ks⟩ := E
  obtain ⟨⟨hx, hb, hml, hown, hts⟩, -⟩ := C.x
  intro H locs la hP hD hS hl
  exact lv_if_ne hx hb hd ht (fun h9 => kt h9 (by rw [if_neg h9] at h; exact h) H locs la hP hD hS hl) (fun h9 => kf h9 (by rw [if_pos h9] at h; exact h) H locs la hP hD hS hl)
theorem V_if_lt (C : Ctx E cc own kk ret) {off : Int} (hd : decode cc pc = .ok (.ifCond .lt off, 3)) {tgt : Nat} (ht : (pc : Int) + off = (tgt : Int)) {x : Int32} (h : (if x < 0 then o1 else o2) = some out) (kt : x < 0 → o1 = some out → V E Q ws tgt ls st) (kf : ¬ x < 0 → o2 = some out → V E Q ws (pc + 3) ls st) : V E Q ws pc ls (.int x :: st) := by
  obtain ⟨p, l, e, R, s, m, args, below, meth, c, G, A, nL, kc, ks⟩ := E
  obtain ⟨⟨hx, hb, hml, hown, hts⟩, -⟩ := C.x
  intro H locs la hP hD hS hl
  exact lv_if_lt hx hb hd ht (fun h9 => kt h9 (by rw [if_pos h9] at h; exact h) H locs la hP hD hS hl) (fun h9 => kf h9 (by rw [if_neg h9] at h; exact h) H locs la hP hD hS hl)
theorem V_if_ge (C : Ctx E cc own kk ret) {off : Int} (hd : decode cc pc = .ok (.ifCond .ge off, 3)) {tgt : Nat} (ht : (pc : Int) + off = (tgt : Int)) {x : Int32} (h : (if 0 ≤ x then o1 else o2) = some out) (kt : 0 ≤ x → o1 = some out → V E Q ws tgt ls st) (kf : ¬ 0 ≤ x → o2 = some out → V E Q ws (pc + 3) ls st) : V E Q ws pc ls (.int x :: st) := by
  obtain ⟨p, l, e, R, s, m, args, below, meth, c, G, A, nL, kc, ks⟩ := E
  obtain ⟨⟨hx, hb, hml, hown, hts⟩, -⟩ := C.x
  intro H locs la hP hD hS hl
  exact lv_if_ge hx hb hd ht (fun h9 => kt h9 (by rw [if_pos h9] at h; exact h) H locs la hP hD hS hl) (fun h9 => kf h9 (by rw [if_neg h9] at h; exact h) H locs la hP hD hS hl)
theorem V_if_gt (C : Ctx E cc own kk ret) {off : Int} (hd : decode cc pc = .ok (.ifCond .gt off, 3)) {tgt : Nat} (ht : (pc : Int) + off = (tgt : Int)) {x : Int32} (h : (if 0 < x then o1 else o2) = some out) (kt : 0 < x → o1 = some out → V E Q ws tgt ls st) (kf : ¬ 0 < x → o2 = some out → V E Q ws (pc + 3) ls st) : V E Q ws pc ls (.int x :: st) := by
  obtain ⟨p, l, e, R, s, m, args, below, meth, c, G, A, nL, kc, ks⟩ := E
  obtain ⟨⟨hx, hb, hml, hown, hts⟩, -⟩ := C.x
  intro H locs la hP hD hS hl
  exact lv_if_gt hx hb hd ht (fun h9 => kt h9 (by rw [if_pos h9] at h; exact h) H locs la hP hD hS hl) (fun h9 => kf h9 (by rw [if_neg h9] at h; exact h) H locs la hP hD hS hl)
theorem V_if_le (C : Ctx E cc own kk ret) {off : Int} (hd : decode cc pc = .ok (.ifCond .le off, 3)) {tgt : Nat} (ht : (pc : Int) + off = (tgt : Int)) {x : Int32} (h : (if x ≤ 0 then o1 else o2) = some out) (kt : x ≤ 0 → o1 = some out → V E Q ws tgt ls st) (kf : ¬ x ≤ 0 → o2 = some out → V E Q ws (pc + 3) ls st) : V E Q ws pc ls (.int x :: st) := by
  obtain ⟨p, l, e, R, s, m, args, below, meth, c, G, A, nL, kc, ks⟩ := E
  obtain ⟨⟨hx, hb, hml, hown, hts⟩, -⟩ := C.x
  intro H locs la hP hD hS hl
  exact lv_if_le hx hb hd ht (fun h9 => kt h9 (by rw [if_pos h9] at h; exact h) H locs la hP hD hS hl) (fun h9 => kf h9 (by rw [if_neg h9] at h; exact h) H locs la hP hD hS hl)
theorem V_ic_eq (C : Ctx E cc own kk ret) {off : Int} (hd : decode cc pc = .ok (.if_icmp .eq off, 3)) {tgt : Nat} (ht : (pc : Int) + off = (tgt : Int)) {x y : Int32} (h : (if x = y then o1 else o2) = some out) (kt : x = y → o1 = some out → V E Q ws tgt ls st) (kf : ¬ x = y → o2 = some out → V E Q ws (pc + 3) ls st) : V E Q ws pc ls (.int y :: .int x :: st) := by
  obtain ⟨p, l, e, R, s, m, args, below, meth, c, G, A, nL, kc, ks⟩ := E
  obtain ⟨⟨hx, hb, hml, hown, hts⟩, -⟩ := C.x
  intro H locs la hP hD hS hl
  exact lv_icmp_eq hx hb hd ht (fun h9 => kt h9 (by rw [if_pos h9] at h; exact h) H locs la hP hD hS hl) (fun h9 => kf h9 (by rw [if_neg h9] at h; exact h) H locs la hP hD hS hl)
theorem V_ic_ne (C : Ctx E cc own kk ret) {off : Int} (hd : decode cc pc = .ok (.if_icmp .ne off, 3)) {tgt : Nat} (ht : (pc : Int) + off = (tgt : Int)) {x y : Int32} (h : (if x = y then o1 else o2) = some out) (kf : x = y → o1 = some out → V E Q ws (pc + 3) ls st) (kt : ¬ x = y → o2 = some out → V E Q ws tgt ls st) : V E Q ws pc ls (.int y :: .int x :: st) := by
  obtain ⟨p, l, e, R, s, m, args, below, meth, c, G, A, nL, kc, ks⟩ := E
  obtain ⟨⟨hx, hb, hml, hown, hts⟩, -⟩ := C.x
  intro H locs la hP hD hS hl
  exact lv_icmp_ne hx hb hd ht (fun h9 => kt h9 (by rw [if_neg h9] at h; exact h) H locs la hP hD hS hl) (fun h9 => kf h9 (by rw [if_pos h9] at h; exact h) H locs la hP hD hS hl)
theorem V_ic_lt (C : Ctx E cc own kk ret) {off : Int} (hd : decode cc pc = .ok (.if_icmp .lt off, 3)) {tgt : Nat} (ht : (pc : Int) + off = (tgt : Int)) {x y : Int32} (h : (if x < y then o1 else o2) = some out) (kt : x < y → o1 = some out → V E Q ws tgt ls st) (kf : ¬ x < y → o2 = some out → V E Q ws (pc + 3) ls st) : V E Q ws pc ls (.int y :: .int x :: st) := by
  obtain ⟨p, l, e, R, s, m, args, below, meth, c, G, A, nL, kc, ks⟩ := E
  obtain ⟨⟨hx, hb, hml, hown, hts⟩, -⟩ := C.x
  intro H locs la hP hD hS hl
  exact lv_icmp_lt hx hb hd ht (fun h9 => kt h9 (by rw [if_pos h9] at h; exact h) H locs la hP hD hS hl) (fun h9 => kf h9 (by rw [if_neg h9] at h; exact h) H locs la hP hD hS hl)
theorem V_ic_ge (C : Ctx E cc own kk ret) {off : Int} (hd : decode cc pc = .ok (.if_icmp .ge off, 3)) {tgt : Nat} (ht : (pc : Int) + off = (tgt : Int)) {x y : Int32} (h : (if y ≤ x then o1 else o2) = some out) (kt : y ≤ x → o1 = some out → V E Q ws tgt ls st) (kf : ¬ y ≤ x → o2 = some out → V E Q ws (pc + 3) ls st) : V E Q ws pc ls (.int y :: .int x :: st) := by
  obtain ⟨p, l, e, R, s, m, args, below, meth, c, G, A, nL, kc, ks⟩ := E
  obtain ⟨⟨hx, hb, hml, hown, hts⟩, -⟩ := C.x
  intro H locs la hP hD hS hl
  exact lv_icmp_ge hx hb hd ht (fun h9 => kt h9 (by rw [if_pos h9] at h; exact h) H locs la hP hD hS hl) (fun h9 => kf h9 (by rw [if_neg h9] at h; exact h) H locs la hP hD hS hl)
theorem V_ic_gt (C : Ctx E cc own kk ret) {off : Int} (hd : decode cc pc = .ok (.if_icmp .gt off, 3)) {tgt : Nat} (ht : (pc : Int) + off = (tgt : Int)) {x y : Int32} (h : (if y < x then o1 else o2) = some out) (kt : y < x → o1 = some out → V E Q ws tgt ls st) (kf : ¬ y < x → o2 = some out → V E Q ws (pc + 3) ls st) : V E Q ws pc ls (.int y :: .int x :: st) := by
  obtain ⟨p, l, e, R, s, m, args, below, meth, c, G, A, nL, kc, ks⟩ := E
  obtain ⟨⟨hx, hb, hml, hown, hts⟩, -⟩ := C.x
  intro H locs la hP hD hS hl
  exact lv_icmp_gt hx hb hd ht (fun h9 => kt h9 (by rw [if_pos h9] at h; exact h) H locs la hP hD hS hl) (fun h9 => kf h9 (by rw [if_neg h9] at h; exact h) H locs la hP hD hS hl)
theorem V_ic_le (C : Ctx E cc own kk ret) {off : Int} (hd : decode cc pc = .ok (.if_icmp .le off, 3)) {tgt : Nat} (ht : (pc : Int) + off = (tgt : Int)) {x y : Int32} (h : (if x ≤ y then o1 else o2) = some out) (kt : x ≤ y → o1 = some out → V E Q ws tgt ls st) (kf : ¬ x ≤ y → o2 = some out → V E Q ws (pc + 3) ls st) : V E Q ws pc ls (.int y :: .int x :: st) := by
  obtain ⟨p, l, e, R, s, m, args, below, meth, c, G, A, nL, kc, ks⟩ := E
  obtain ⟨⟨hx, hb, hml, hown, hts⟩, -⟩ := C.x
  intro H locs la hP hD hS hl
  exact lv_icmp_le hx hb hd ht (fun h9 => kt h9 (by rw [if_pos h9] at h; exact h) H locs la hP hD hS hl) (fun h9 => kf h9 (by rw [if_neg h9] at h; exact h) H locs la hP hD hS hl)
/-! switches: Sw: at the switch, the numbers from lo to before cur are out -/
def Sw (E : VE) (Q : State → Prop) (ws : va_W) (pc : Nat) (ls : List (Nat × Value)) (st : List Value) (x : Int32) (lo cur : Int) : Prop := (∀ k : Int, lo ≤ k → k < cur → x.toInt ≠ k) → V E Q ws pc ls (.int x :: st)
theorem V_sw {x : Int32} (lo : Int) (k : Sw E Q ws pc ls st x lo lo) : V E Q ws pc ls (.int x :: st) := k (fun k h1 h2 => absurd h1 (by omega))
theorem Sw_at (C : Ctx E cc own kk ret) {dflt lo hi cur : Int} {offs : Array Int} {len : Nat} (hd : decode cc pc = .ok (.tableswitch dflt lo hi offs, len)) {x v : Int32} {off : Int} {tgt : Nat} (hv : v.toInt = cur) (h1 : lo ≤ cur) (h2 : cur ≤ hi) (ho : offs[(cur - lo).toNat]? = some off) (ht : (pc : Int) + off = (tgt : Int)) (h : (if x = v then o1 else o2) = some out) (kt : x = v → o1 = some out → V E Q ws tgt ls st) (kf : ¬ x = v → o2 = some out → Sw E Q ws pc ls st x lo (cur + 1)) : Sw E Q ws pc ls st x lo cur := by
  intro hne
  by_cases hc : x = v
  · rw [if_pos hc] at h
    have kt9 := kt hc h
    clear kt kf
    obtain ⟨p, l, e, R, s, m, args, below, meth, c, G, A, nL, kc, ks⟩ := E
    obtain ⟨⟨hx, hb, hml, hown, hts⟩, -⟩ := C.x
    intro H locs la hP hD hS hl
    subst hc
    exact lv_tableIn hx hb hd (by omega) (by omega) (by rw [hv]; exact ho) ht (kt9 H locs la hP hD hS hl)
  · rw [if_neg hc] at h
    refine kf hc h (fun k h1 h2 => ?_)
    rcases Int.lt_or_eq_of_le (Int.le_of_lt_add_one h2) with h3 | h3
    · exact hne k h1 h3
    · intro e
      apply hc
      apply Int32.toInt_inj.mp
      rw [hv, e, h3]
theorem Sw_end (C : Ctx E cc own kk ret) {dflt lo hi cur : Int} {offs : Array Int} {len : Nat} (hd : decode cc pc = .ok (.tableswitch dflt lo hi offs, len)) {x : Int32} {tgt : Nat} (hc : cur = hi + 1) (ht : (pc : Int) + dflt = (tgt : Int)) (k : V E Q ws tgt ls st) : Sw E Q ws pc ls st x lo cur := by
  intro hne
  subst hc
  obtain ⟨p, l, e, R, s, m, args, below, meth, c, G, A, nL, kc, ks⟩ := E
  obtain ⟨⟨hx, hb, hml, hown, hts⟩, -⟩ := C.x
  intro H locs la hP hD hS hl
  refine lv_tableOut hx hb hd ?_ ht (k H locs la hP hD hS hl)
  by_cases h1 : x.toInt < lo
  · exact Or.inl h1
  · by_cases h2 : hi < x.toInt
    · exact Or.inr h2
    · exact absurd rfl (hne x.toInt (by omega) (by omega))
/-! lookupswitch: the keys one behind another -/
def Lk (E : VE) (Q : State → Prop) (ws : va_W) (pc : Nat) (ls : List (Nat × Value)) (st : List Value) (x : Int32) (ps : List (Int × Int)) (dflt : Int) : Prop := ∀ tgt : Nat, (pc : Int) + Op.lookupswitch.offset ps dflt x.toInt = (tgt : Int) → V E Q ws tgt ls st
theorem lk_off_hit {a off dflt : Int} {ps : List (Int × Int)} : Op.lookupswitch.offset ((a, off) :: ps) dflt a = off := by
  simp [Op.lookupswitch.offset]
theorem lk_off_miss {a off dflt y : Int} {ps : List (Int × Int)} (h : ¬ y = a) : Op.lookupswitch.offset ((a, off) :: ps) dflt y = Op.lookupswitch.offset ps dflt y := by
  simp [Op.lookupswitch.offset, Ne.symm h]
/-! ends -/
def QQ (G : GG) (rv : Option Value) (ws' : va_W) (A : Nat → Prop) : Array Value → State → Outcome → State → Prop := fun _ st oc t => oc = .returned rv ∧ va_P G.1 vwCl ws' t.heap ∧ va_F A st t
def QR (E : VE) (rv : Option Value) (ws' : va_W) : State → Prop := match E with
  | (_, _, _, _, s, _, args, below, _, _, G, A, _, kc, ks) => MQ below (QQ G rv ws' A) args s kc ks A
theorem V_iret {ty : FieldType} (C : Ctx E cc own kk (some ty)) (hd : decode cc pc = .ok (.ireturn, 1)) {v : Int32} (hn : narrow ty (.int v) = .int v) : V E (QR E (some (.int v)) ws) ws pc ls [.int v] := by
  obtain ⟨p, l, e, R, s, m, args, below, meth, c, G, A, nL, kc, ks⟩ := E
  obtain ⟨⟨hx, hb, hml, hown, hts⟩, hr, hlocks, hK, hA, hR, hcs⟩ := C.x
  intro H locs la hP hD hS hl
  exact W.zret hx hb hr hn (fun t ht hW => ⟨rfl, by rw [ht]; exact hP, hS.F ht⟩) hS.2.2 hd hlocks
theorem V_lret (C : Ctx E cc own kk (some .long)) (hd : decode cc pc = .ok (.lreturn, 1)) {v : Int64} : V E (QR E (some (.long v)) ws) ws pc ls [.long v] := by
  obtain ⟨p, l, e, R, s, m, args, below, meth, c, G, A, nL, kc, ks⟩ := E
  obtain ⟨⟨hx, hb, hml, hown, hts⟩, hr, hlocks, hK, hA, hR, hcs⟩ := C.x
  intro H locs la hP hD hS hl
  exact W.lret hx hb hr (fun t ht hW => ⟨rfl, by rw [ht]; exact hP, hS.F ht⟩) hS.2.2 hd hlocks
theorem V_vret (C : Ctx E cc own kk none) (hd : decode cc pc = .ok (.return_, 1)) : V E (QR E none ws) ws pc ls [] := by
  obtain ⟨p, l, e, R, s, m, args, below, meth, c, G, A, nL, kc, ks⟩ := E
  obtain ⟨⟨hx, hb, hml, hown, hts⟩, hr, hlocks, hK, hA, hR, hcs⟩ := C.x
  intro H locs la hP hD hS hl
  exact W.vret hx hb hr (fun t ht hW => ⟨rfl, by rw [ht]; exact hP, hS.F ht⟩) hS.2.2 hd hlocks
theorem isb_nar {v : Int32} (h : isb v = true) : narrow .boolean (.int v) = .int v := by
  unfold isb at h
  simp only [Bool.or_eq_true, decide_eq_true_eq] at h
  rcases h with rfl | rfl <;> rfl
/-! a method's contract: from av and the world ws it answers rv and leaves ws' -/
def Con (l : Launch) (G : GG) (k : Nat) (y : MethodName) (cc : ByteArray) (n : Nat) (ret : Option FieldType) (av : List Value) (ws : va_W) (rv : Option Value) (ws' : va_W) : Prop :=
  ∀ sz : Nat, Met l y (wsm y cc n ret) (rmk k) (va_Pc av (fun U => U.heap.size = sz ∧ va_P G.1 vwCl ws U.heap ∧ va_K G.1 vwCl (tysG G) U ∧ va_D (fun _ => True) ws ∧ SOk G (va_A ws sz) U)) (QQ G rv ws' (va_A ws sz)) 0 0 (va_A ws sz)
def MOk (y : MethodName) (cc : ByteArray) (n : Nat) (ret : Option FieldType) (na : Nat) : Prop := Cond.code y cc n ret ∈ T0 ∧ Cond.initialized y.cls ∈ T0 ∧ y.cls ≠ "java/lang/invoke/MethodHandle" ∧ y.cls ≠ "java/lang/invoke/VarHandle" ∧ (parseMethodDescriptor y.desc).map (fun d => d.parameters.length) = some na
def MOkV (y : MethodName) (cc : ByteArray) (n : Nat) (ret : Option FieldType) (na : Nat) : Prop := MOk y cc n ret na ∧ Cond.instanceMethod y ∈ T0 ∧ Cond.selects y.cls y y ∈ T0
def MOkS (y : MethodName) (cc : ByteArray) (n : Nat) (ret : Option FieldType) (na : Nat) : Prop := MOk y cc n ret na ∧ Cond.static y ∈ T0
def setm : va_W → List Nat → va_W → va_W
  | ws, i :: is, c :: cs => setm (ws.set i c) is cs
  | ws, _, _ => ws
theorem setm_get : ∀ {is : List Nat} {cs ws : va_W} {k : Nat} {q : Nat × va_E}, is.length = cs.length → (setm ws is cs)[k]? = some q → (k ∉ is ∧ ws[k]? = some q) ∨ ∃ j : Nat, cs[j]? = some q ∧ is[j]? = some k
  | [], [], ws, k, q, _, h => Or.inl ⟨List.not_mem_nil, h⟩
  | i :: is, c :: cs, ws, k, q, hl, h => by
    rcases setm_get (is := is) (cs := cs) (by simpa using hl) h with ⟨h1, h2⟩ | ⟨j, h1, h2⟩
    · by_cases hk : k = i
      · subst hk
        have hlt : k < (ws.set k c).length := (List.getElem?_eq_some_iff.mp h2).1
        rw [List.length_set] at hlt
        rw [List.getElem?_set_self hlt] at h2
        exact Or.inr ⟨0, by simpa using h2, rfl⟩
      · rw [List.getElem?_set_ne (Ne.symm hk)] at h2
        exact Or.inl ⟨by simp [hk, h1], h2⟩
    · exact Or.inr ⟨j + 1, by simpa using h1, by simpa using h2⟩
  | [], c :: cs, ws, k, q, hl, h => by simp at hl
  | i :: is, [], ws, k, q, hl, h => by simp at hl
theorem setm_fst : ∀ {is : List Nat} {cs ws : va_W}, is.map (fun i => (ws.map Prod.fst)[i]?) = cs.map (fun q => some q.1) → (setm ws is cs).map Prod.fst = ws.map Prod.fst
  | [], cs, ws, _ => by cases cs <;> rfl
  | i :: is, [], ws, _ => rfl
  | i :: is, c :: cs, ws, h => by
    simp only [List.map_cons, List.cons.injEq] at h
    have e : (ws.set i c).map Prod.fst = ws.map Prod.fst := by
      rw [List.map_set]
      apply List.ext_getElem?
      intro k
      by_cases hk : i = k
      · subst hk
        rw [h.1]
        have hlt : i < (ws.map Prod.fst).length := (List.getElem?_eq_some_iff.mp h.1).1
        rw [List.getElem?_set_self hlt]
      · rw [List.getElem?_set_ne hk]
    show (setm (ws.set i c) is cs).map Prod.fst = _
    rw [setm_fst (by rw [e]; exact h.2), e]
theorem va_D_fst {A : Nat → Prop} {w1 w2 : va_W} (h : w1.map Prod.fst = w2.map Prod.fst) (hD : va_D A w1) : va_D A w2 := by
  have key : ∀ (k : Nat) (q : Nat × va_E), w2[k]? = some q → ∃ q0, w1[k]? = some q0 ∧ q0.1 = q.1 := by
    intro k q hk
    have h1 : (w1.map Prod.fst)[k]? = some q.1 := by rw [h, List.getElem?_map, hk]; rfl
    rw [List.getElem?_map] at h1
    cases hq : w1[k]? with
    | none => rw [hq] at h1; cases h1
    | some q0 => rw [hq] at h1; exact ⟨q0, rfl, Option.some.inj h1⟩
  refine ⟨fun i j x y hi hj hxy => ?_, fun k q hk => ?_⟩
  · obtain ⟨x0, h1, h2⟩ := key i x hi
    obtain ⟨y0, h3, h4⟩ := key j y hj
    exact hD.1 i j x0 y0 h1 h3 (h2.trans (hxy.trans h4.symm))
  · obtain ⟨q0, h1, h2⟩ := key k q hk
    rw [← h2]
    exact hD.2 k q0 h1
/-- behind a call: the callee's cells as it left them, the others as they were -/
theorem setm_P {G : GG} {A0 : Nat → Prop} {ws wc wc' : va_W} {H H1 : Heap} {is : List Nat} (hP : va_P G.1 vwCl ws H) (hD : va_D A0 ws) (hC : is.map (fun i => ws[i]?) = wc.map some) (ha : wc'.map Prod.fst = wc.map Prod.fst) (hk : ∀ q : Nat, q < H.size → ¬ va_A wc H.size q → H1[q]? = H[q]?) (hP1 : va_P G.1 vwCl wc' H1) : va_P G.1 vwCl (setm ws is wc') H1 ∧ va_D A0 (setm ws is wc') := by
  have hlen : is.length = wc'.length := by
    have h1 := congrArg List.length hC
    have h2 := congrArg List.length ha
    simp only [List.length_map] at h1 h2
    omega
  refine ⟨fun k q hq => ?_, va_D_fst (Eq.symm (setm_fst ?_)) hD⟩
  · rcases setm_get hlen hq with ⟨h1, h2⟩ | ⟨j, h1, h2⟩
    · refine (hP k q h2).kept (hk q.1 (hP k q h2).lt (fun z => ?_))
      rcases z with ⟨j, e9, hj⟩ | z
      · have h3 : (is.map (fun i => ws[i]?))[j]? = some (some (q.1, e9)) := by rw [hC, List.getElem?_map, hj]; rfl
        rw [List.getElem?_map] at h3
        cases hi : is[j]? with
        | none => rw [hi] at h3; cases h3
        | some i =>
          rw [hi] at h3
          have h4 : ws[i]? = some (q.1, e9) := Option.some.inj h3
          have h5 := hD.1 k i q (q.1, e9) h2 h4 rfl
          subst h5
          exact h1 (List.mem_of_getElem? hi)
      · exact absurd (hP k q h2).lt (Nat.not_lt.mpr z)
    · exact hP1 j q h1
  · have e : is.map (fun i => (ws.map Prod.fst)[i]?) = (is.map (fun i => ws[i]?)).map (fun o => o.map Prod.fst) := by
      rw [List.map_map]
      apply List.map_congr_left
      intro i _
      simp
    rw [e, hC, List.map_map]
    have e2 : wc'.map (fun q => some q.1) = (wc'.map Prod.fst).map some := by rw [List.map_map]; rfl
    rw [e2, ha, List.map_map]
    rfl
/-- the call itself, once its run is there -/
theorem V_run {p : Program} {l : Launch} {e : Env} {R : Room} {s : State} {m : MethodId} {args : Array Value} {below : List Frame} {meth : Method} {c : Code} {G : GG} {A : Nat → Prop} {nL kc ks : Nat} {st0 rest : List Value} {wc wc' : va_W} {rv : Option Value} {H : Heap} {locs : List Loc} {la : Array Slot} {is : List Nat} {a9 : Array Value}
    (hP : va_P G.1 vwCl ws H) (hD : va_D A ws) (hS : va_S A s.heap H locs) (hl : lv_has la nL ls) (hA : ∀ q : Nat, s.heap.size ≤ q → A q)
    (run : va_Run p l e R s m args below meth c H locs kc ks 0 0 (F0 m pc la st0) rest (QQ G rv wc' (va_A wc H.size) a9) (va_A wc H.size))
    (hC : is.map (fun i => ws[i]?) = wc.map some) (ha : wc'.map Prod.fst = wc.map Prod.fst) (hw : setm ws is wc' = ws')
    (kk : V (p, l, e, R, s, m, args, below, meth, c, G, A, nL, kc, ks) Q ws' (pc + 3) ls (rv.toList ++ rest)) : W p l e R s m args below meth c H locs kc ks Q (F0 m pc la st0) := by
  have hF := va_free (wc := wc) hD hS hA is hC
  subst hw
  intro T hT X
  obtain ⟨v, st₀, t, T', L, h0, X', hL, e1, e2, ⟨hv, hP1, hz, hk⟩, st⟩ := run T hT X
  cases hv
  rw [h0] at hz hk
  have hk' : ∀ q : Nat, q < H.size → ¬ va_A wc H.size q → T'.heap[q]? = H[q]? := fun q h1 h2 => by rw [e1]; exact hk q h1 h2
  obtain ⟨hPn, hDn⟩ := setm_P hP hD hC ha hk' (by rw [e1]; exact hP1)
  have hSn : va_S A s.heap T'.heap (locs ++ L) := ⟨Nat.le_trans hS.1 (by rw [e1]; exact hz), fun q h1 h2 => by rw [hk' q (Nat.lt_of_lt_of_le h1 hS.1) (fun z => h2 (hF q z))]; exact hS.2.1 q h1 h2, fun q hq => by
      rcases List.mem_append.mp hq with h | h
      · exact hS.2.2 q h
      · exact hF _ (hL q h)⟩
  obtain ⟨t2, a1, b1⟩ := kk T'.heap (locs ++ L) la hPn hDn hSn hl T' rfl X'
  exact ⟨t2, st t2 a1, b1⟩
theorem blind_Con {G : GG} {ws : va_W} {av : List Value} {sz : Nat} {Z : Nat → Prop} : FrameBlind (va_Pc av (fun U => U.heap.size = sz ∧ va_P G.1 vwCl ws U.heap ∧ va_K G.1 vwCl (tysG G) U ∧ va_D (fun _ => True) ws ∧ SOk G Z U)) := fun a U g mk q => by
  obtain ⟨q0, q1, qP, qK, qD, qS⟩ := q
  exact ⟨q0, q1, qP, va_K.moved (u := U) (U := U.calling g mk a) (Vm.Alike.refl U.vm) qK, qD, SOk.call qS⟩
theorem V_callV (C : Ctx E cc own kk ret) {idx : Nat} (hd : decode cc pc = .ok (.invokevirtual idx, 3)) {y : MethodName} {cc' : ByteArray} {n' na k' : Nat} {ret' : Option FieldType} {b : Nat} {As rest st0 : List Value} {wc wc' : va_W} {rv : Option Value} {q0 ci : Nat} {fs : List Value} {q9 : vw_C}
    (hok : MOkV y cc' n' ret' na) (hlk : Cond.methodLink own idx y ∈ T0) (hM : Con E.l E.G k' y cc' n' ret' (.ref b :: As) wc rv wc') (is : List Nat) (hst : st0 = As.reverse ++ .ref b :: rest) (hC : is.map (fun i => ws[i]?) = wc.map some) (hnd : va_nd is = true) (ha : wc'.map Prod.fst = wc.map Prod.fst) (hw : setm ws is wc' = ws') (hrc : wc[q0]? = some (b, .inr (ci, fs))) (hcl : vwCl[ci]? = some q9) (hcy : q9.1 = y.cls) (hn : As.length = na) (hk : k' + 1 ≤ kk) (hn' : n' ≤ 40) (hroom : (rest.map fun v => v.category).sum ≤ 8)
    (kk : V E Q ws' (pc + 3) ls (rv.toList ++ rest)) : V E Q ws pc ls st0 := by
  obtain ⟨p, l, e, R, s, m, args, below, meth, c, G, A, nL, kc, ks⟩ := E
  obtain ⟨⟨hx, hb, hml, hown, hts⟩, hr, hlocks, hK, hA, hR, hcs, hSO⟩ := C.x
  obtain ⟨⟨hcode, hini, hd1, hd2, hd3⟩, hinst, hsel⟩ := hok
  intro H locs la hP hD hS hl
  have hPc : va_P G.1 vwCl wc H := fun j q hj => by
    have h1 : (is.map (fun i => ws[i]?))[j]? = some (some q) := by rw [hC, List.getElem?_map, hj]; rfl
    rw [List.getElem?_map] at h1
    cases hi : is[j]? with
    | none => rw [hi] at h1; cases h1
    | some i => rw [hi] at h1; exact hP i q (Option.some.inj h1)
  have hDc := hD.sub is hnd hC
  have hF := va_free (wc := wc) hD hS hA is hC
  have hGI : GoodIn T0 (wsm y cc' n' ret') := fun w h => (List.mem_cons.mp h).elim (fun h => h ▸ T0_good _ hcode) (fun h => T0_good _ h)
  have cw : CallW R s args own y.cls idx y cc' n' ret' (wsm y cc' n' ret') (rmk k') 0 0 na := ⟨callB_of na hts hGI rfl rfl rfl (hts _ hini) (hts _ hlk) ⟨hd1, hd2, hd3⟩ ⟨by show k' + 1 ≤ R.frames; omega, by show 8 + (n' + 11) + 60 * k' ≤ R.locals; omega⟩, hts _ hinst, hts _ hsel⟩
  have hrv : ∃ cell : Cell, H[b]? = some cell ∧ cell.vm.isStatics = false ∧ s.vm.findClass y.cls = some cell.cls := by
    have := va_recv hK hPc hcl hrc
    rw [hcy] at this
    exact this
  refine V_run hP hD hS hl hA (va_runV (As := As) (rest := rest) ⟨hx, hb, hml, hown, hts⟩ (hM H.size) cw ⟨blind_Con, hrv, fun U hU hW => ⟨rfl, by rw [hU], by rw [hU]; exact hPc, va_K.moved hW.alike hK, hDc.weaken (fun _ _ _ _ => trivial), SOk.go hSO hW (by rw [hU]; exact hS.2.1) hF⟩⟩ rfl hn hl.1 hst (lv_room hroom) hd hcs) hC ha hw kk
theorem V_callS (C : Ctx E cc own kk ret) {idx : Nat} (hd : decode cc pc = .ok (.invokestatic idx, 3)) {y : MethodName} {cc' : ByteArray} {n' na k' : Nat} {ret' : Option FieldType} {As rest st0 : List Value} {wc wc' : va_W} {rv : Option Value}
    (hok : MOkS y cc' n' ret' na) (hlk : Cond.methodLink own idx y ∈ T0) (hM : Con E.l E.G k' y cc' n' ret' As wc rv wc') (is : List Nat) (hst : st0 = As.reverse ++ rest) (hC : is.map (fun i => ws[i]?) = wc.map some) (hnd : va_nd is = true) (ha : wc'.map Prod.fst = wc.map Prod.fst) (hw : setm ws is wc' = ws') (hn : As.length = na) (hk : k' + 1 ≤ kk) (hn' : n' ≤ 40) (hroom : (rest.map fun v => v.category).sum ≤ 8)
    (kk : V E Q ws' (pc + 3) ls (rv.toList ++ rest)) : V E Q ws pc ls st0 := by
  obtain ⟨p, l, e, R, s, m, args, below, meth, c, G, A, nL, kc, ks⟩ := E
  obtain ⟨⟨hx, hb, hml, hown, hts⟩, hr, hlocks, hK, hA, hR, hcs, hSO⟩ := C.x
  obtain ⟨⟨hcode, hini, hd1, hd2, hd3⟩, hstat⟩ := hok
  intro H locs la hP hD hS hl
  have hPc : va_P G.1 vwCl wc H := fun j q hj => by
    have h1 : (is.map (fun i => ws[i]?))[j]? = some (some q) := by rw [hC, List.getElem?_map, hj]; rfl
    rw [List.getElem?_map] at h1
    cases hi : is[j]? with
    | none => rw [hi] at h1; cases h1
    | some i => rw [hi] at h1; exact hP i q (Option.some.inj h1)
  have hDc := hD.sub is hnd hC
  have hF := va_free (wc := wc) hD hS hA is hC
  have hGI : GoodIn T0 (wsm y cc' n' ret') := fun w h => (List.mem_cons.mp h).elim (fun h => h ▸ T0_good _ hcode) (fun h => T0_good _ h)
  have cw : CallB R s args own idx y cc' n' ret' (wsm y cc' n' ret') (rmk k') 0 0 na ∧ (Cond.static y).before args s = true := ⟨callB_of na hts hGI rfl rfl rfl (hts _ hini) (hts _ hlk) ⟨hd1, hd2, hd3⟩ ⟨by show k' + 1 ≤ R.frames; omega, by show 8 + (n' + 11) + 60 * k' ≤ R.locals; omega⟩, hts _ hstat⟩
  refine V_run hP hD hS hl hA (va_runS (As := As) (rest := rest) ⟨hx, hb, hml, hown, hts⟩ (hM H.size) cw ⟨blind_Con, fun U hU hW => ⟨rfl, by rw [hU], by rw [hU]; exact hPc, va_K.moved hW.alike hK, hDc.weaken (fun _ _ _ _ => trivial), SOk.go hSO hW (by rw [hU]; exact hS.2.1) hF⟩⟩ rfl hn hl.1 hst (lv_room hroom) hd hcs) hC ha hw kk
/-- a contract out of the walk of its body -/
theorem Con_of {l : Launch} {G : GG} {k : Nat} {y : MethodName} {n : Nat} {av : List Value} {rv : Option Value} (hy : plainName y.cls = true) (hlen : (lg_sl av).length ≤ n)
    (body : ∀ E : VE, E.l = l → E.G = G → E.nL = n → Ctx E cc y.cls k ret → V E (QR E rv ws') ws 0 (lv_args 0 av) []) : Con l G k y cc n ret av ws rv ws' := by
  intro sz
  refine Met.ofW (cc := cc) (maxL := n) (ret := ret) hy rfl ?_
  intro p e s m args below meth c s₁ B hml hv
  obtain ⟨rfl, hsz, hP, hK, hD0, hSO⟩ := hv
  have hts := atoms_spec (ws := wsm y cc n ret) B.pre
  have hown : s.vm.findClass y.cls = some m.cls := findClass_of_methodNamed B.named
  subst hsz
  have hD := hD0.self (sz := s.heap.size)
  have hl := lv_entry av (n := n) hlen
  rw [lg_entry_eq]
  exact body (p, l, e, (headSpec (wsm y cc n ret) (rmk k)).room, s, m, av.toArray, below, meth, c, G, va_A ws s.heap.size, n, 0, 0) rfl rfl rfl ⟨⟨B.exec, B.bytes, hml, hown, fun w h => hts w (List.mem_cons_of_mem _ h)⟩, B.returns, B.notSynchronized, hK, fun q h => Or.inr h, ⟨Nat.le_refl _, Nat.le_refl _⟩, ⟨Nat.le_refl _, Nat.le_refl _⟩, hSO⟩ s.heap [] _ hP hD va_S.rf hl
end VR
