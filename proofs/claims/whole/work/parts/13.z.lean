section VX
variable {E : VE} {Q : State → Prop} {ws : va_W} {pc : Nat} {ls : List (Nat × Value)} {st : List Value} {cc : ByteArray} {own : String} {kk : Nat} {ret : Option FieldType} {O : Type} {o : Option O} {out : O}
theorem V_aald3 (C : Ctx E cc own kk ret) (hd : decode cc pc = .ok (.aaload, 1)) (q0 t0 : Nat) {a n : Nat} {f : Nat → Option Nat} {i : Int32} {cA : ClassId} {D : String} {b : Nat} (he : ws[q0]? = some (a, .inl (cA, n, .inr (.inr (.inr (.inr f)))))) (ht : (tysG E.G)[t0]? = some (cA, .object D)) (h : gd (inb i n) o = some out) (hb9 : f (ix i) = some b) (k : inb i n = true → o = some out → V E Q ws (pc + 1) ls (.ref b :: st)) : V E Q ws pc ls (.int i :: .ref a :: st) :=
  V_aald C hd q0 t0 he ht h (fun _ => hb9) (k (gd_some h).1)
theorem setm_pre2 : ∀ (pre ws cs r : va_W), ws.length = cs.length → setm (pre ++ (ws ++ r)) (List.range' pre.length ws.length) cs = pre ++ (cs ++ r)
  | pre, [], [], r, _ => by simp [setm]
  | pre, w :: ws, c :: cs, r, h => by
    have e1 : (pre ++ (w :: ws ++ r)).set pre.length c = (pre ++ [c]) ++ (ws ++ r) := by simp [List.set_append]
    show setm (pre ++ (w :: ws ++ r)) (List.range' pre.length (ws.length + 1)) (c :: cs) = _
    rw [List.range'_succ]
    show setm ((pre ++ (w :: ws ++ r)).set pre.length c) (List.range' (pre.length + 1) ws.length) cs = _
    rw [e1]
    have := setm_pre2 (pre ++ [c]) ws cs r (by simpa using h)
    simp only [List.length_append, List.length_cons, List.length_nil, Nat.zero_add] at this
    rw [this]
    simp
  | pre, [], c :: cs, r, h => by simp at h
  | pre, w :: ws, [], r, h => by simp at h
theorem setm_left {ws cs r : va_W} (h : ws.length = cs.length) : setm (ws ++ r) (List.range' 0 ws.length) cs = cs ++ r := setm_pre2 [] ws cs r h
end VX
