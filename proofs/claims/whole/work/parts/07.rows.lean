/-! ===== lookupswitch, rows of references with the place known, String constants ===== -/
section VT
variable {E : VE} {Q : State → Prop} {ws ws' : va_W} {pc : Nat} {ls ls' : List (Nat × Value)} {st st' : List Value} {cc : ByteArray} {own : String} {kk : Nat} {ret : Option FieldType} {O : Type} {o o1 o2 : Option O} {out : O}
def Lk2 (E : VE) (Q : State → Prop) (ws : va_W) (pc : Nat) (ls : List (Nat × Value)) (st : List Value) (x : Int32) (ps : List (Int × Int)) (dflt : Int) : Prop := ∃ tgt : Nat, (pc : Int) + Op.lookupswitch.offset ps dflt x.toInt = (tgt : Int) ∧ V E Q ws tgt ls st
theorem V_lk (C : Ctx E cc own kk ret) {dflt : Int} {ps : Array (Int × Int)} {len : Nat} (hd : decode cc pc = .ok (.lookupswitch dflt ps, len)) {x : Int32} (hp : (ps.toList.zip (ps.toList.drop 1)).all (fun (a, next) => a.1 < next.1) = true) (k : Lk2 E Q ws pc ls st x ps.toList dflt) : V E Q ws pc ls (.int x :: st) := by
  obtain ⟨tgt, ht, k⟩ := k
  obtain ⟨p, l, e, R, s, m, args, below, meth, c, G, A, nL, kc, ks⟩ := E
  obtain ⟨⟨hx, hb, hml, hown, hts⟩, -⟩ := C.x
  intro H locs la hP hD hS hl
  exact lv_lookup hx hb hd hp rfl ht (k H locs la hP hD hS hl)
theorem Lk_at {dflt a off : Int} {ps : List (Int × Int)} {x v : Int32} {tgt : Nat} (hv : v.toInt = a) (ht : (pc : Int) + off = (tgt : Int)) (h : (if x = v then o1 else o2) = some out) (kt : x = v → o1 = some out → V E Q ws tgt ls st) (kf : ¬ x = v → o2 = some out → Lk2 E Q ws pc ls st x ps dflt) : Lk2 E Q ws pc ls st x ((a, off) :: ps) dflt := by
  by_cases hc : x = v
  · rw [if_pos hc] at h
    have k9 := kt hc h
    refine ⟨tgt, ?_, k9⟩
    rw [hc, hv, lk_off_hit]
    exact ht
  · rw [if_neg hc] at h
    obtain ⟨t, h1, h2⟩ := kf hc h
    refine ⟨t, ?_, h2⟩
    rw [lk_off_miss (fun e => hc (Int32.toInt_inj.mp (e.trans hv.symm)))]
    exact h1
theorem Lk_end {dflt : Int} {x : Int32} {tgt : Nat} (ht : (pc : Int) + dflt = (tgt : Int)) (k : V E Q ws tgt ls st) : Lk2 E Q ws pc ls st x [] dflt := ⟨tgt, ht, k⟩
theorem inb_lt {i : Int32} {n : Nat} (h : inb i n = true) : ix i < n := Nat.not_le.mp fun q => inb_vp h (Or.inr q)
theorem V_aald2 (C : Ctx E cc own kk ret) (hd : decode cc pc = .ok (.aaload, 1)) (q0 t0 : Nat) {a n : Nat} {f : Nat → Option Nat} {i : Int32} {cA : ClassId} {D : String} {b : Nat} (he : ws[q0]? = some (a, .inl (cA, n, .inr (.inr (.inr (.inr f)))))) (ht : (tysG E.G)[t0]? = some (cA, .object D)) (h : gd (inb i n) o = some out) (hb9 : f (ix i) = some b) (k : ix i < n → o = some out → V E Q ws (pc + 1) ls (.ref b :: st)) : V E Q ws pc ls (.int i :: .ref a :: st) :=
  V_aald C hd q0 t0 he ht h (fun _ => hb9) (k (inb_lt (gd_some h).1))
theorem V_ldcS (C : Ctx E cc own kk ret) {idx : Nat} (hd : decode cc pc = .ok (.ldc idx, 2)) {tx : String} {i : Nat} (hm : (own, idx, tx, i) ∈ sRefs) (k : V E Q ws (pc + 2) ls (.ref (E.G.adK i) :: st)) : V E Q ws pc ls st := by
  obtain ⟨p, l, e, R, s, m, args, below, meth, c, G, A, nL, kc, ks⟩ := E
  obtain ⟨⟨hx, hb, hml, hown, hts⟩, hr, hlocks, hK, hA, hR, hcs, hSO⟩ := C.x
  intro H locs la hP hD hS hl
  exact va_ldcS hx hb hown (hSO.2.1 _ hm) hd (k H locs la hP hD hS hl)
end VT
theorem sr_0 : (RX3, 32, "side", 0) ∈ sRefs := by decide +kernel
theorem sr_1 : (RX3, 41, "mote", 1) ∈ sRefs := by decide +kernel
theorem sr_2 : (RX3, 52, "open", 2) ∈ sRefs := by decide +kernel
theorem sr_3 : (RX3, 58, "shut", 3) ∈ sRefs := by decide +kernel
theorem sr_4 : (RX3, 79, "fan", 4) ∈ sRefs := by decide +kernel
theorem sr_5 : (RX3, 81, "warm", 5) ∈ sRefs := by decide +kernel
theorem sr_6 : (RX3, 83, "hour", 6) ∈ sRefs := by decide +kernel
theorem sr_7 : (RX3, 85, "beam", 7) ∈ sRefs := by decide +kernel
theorem sr_8 : (RX3, 87, "chance", 8) ∈ sRefs := by decide +kernel
theorem sr_9 : (RX5, 153, "side", 0) ∈ sRefs := by decide +kernel
theorem sr_10 : (RX5, 162, "mote", 1) ∈ sRefs := by decide +kernel
theorem sr_11 : (RX5, 164, "open", 2) ∈ sRefs := by decide +kernel
theorem sr_12 : (RX5, 166, "shut", 3) ∈ sRefs := by decide +kernel
theorem sr_13 : (RX5, 168, "fan", 4) ∈ sRefs := by decide +kernel
theorem sr_14 : (RX5, 170, "warm", 5) ∈ sRefs := by decide +kernel
theorem sr_15 : (RX5, 172, "hour", 6) ∈ sRefs := by decide +kernel
theorem sr_16 : (RX5, 174, "beam", 7) ∈ sRefs := by decide +kernel
theorem sr_17 : (RX5, 176, "chance", 8) ∈ sRefs := by decide +kernel
/-! Math over ints -/
def jmax (x y : Int32) : Int32 := if x < y then y else x
def jmin (x y : Int32) : Int32 := if y < x then y else x
def jabs (x : Int32) : Int32 := if 0 ≤ x then x else 0 - x
section VM
variable {E : VE} {Q : State → Prop} {ws ws' : va_W} {pc : Nat} {ls ls' : List (Nat × Value)} {st st' : List Value} {cc : ByteArray} {own : String} {kk : Nat} {ret : Option FieldType}
theorem V_max (C : Ctx E cc own kk ret) {idx : Nat} (hd : decode cc pc = .ok (.invokestatic idx, 3)) (hlk : Cond.methodLink own idx Lib.Math.max.name ∈ T0) {x y : Int32} (hk : 1 ≤ kk) (hroom : (st.map fun v => v.category).sum ≤ 8) (k : V E Q ws (pc + 3) ls (.int (jmax x y) :: st)) : V E Q ws pc ls (.int y :: .int x :: st) := by
  obtain ⟨p, l, e, R, s, m, args, below, meth, c, G, A, nL, kc, ks⟩ := E
  obtain ⟨⟨hx, hb, hml, hown, hts⟩, hr, hlocks, hK, hA, hR, hcs, hSO⟩ := C.x
  intro H locs la hP hD hS hl
  exact va_mmax hx hb (hml.trans hl.1.symm) hown (hts _ hlk) (hts _ ok_yJ9_max_7cf53.2) (hts _ ok_yJ9_max_7cf53.1.2.1) (hts _ ck_yJ9_max_7cf53) (by omega) (by omega) hcs.1 hcs.2 hd (k H locs la hP hD hS hl)
theorem V_min (C : Ctx E cc own kk ret) {idx : Nat} (hd : decode cc pc = .ok (.invokestatic idx, 3)) (hlk : Cond.methodLink own idx Lib.Math.min.name ∈ T0) {x y : Int32} (hk : 1 ≤ kk) (hroom : (st.map fun v => v.category).sum ≤ 8) (k : V E Q ws (pc + 3) ls (.int (jmin x y) :: st)) : V E Q ws pc ls (.int y :: .int x :: st) := by
  obtain ⟨p, l, e, R, s, m, args, below, meth, c, G, A, nL, kc, ks⟩ := E
  obtain ⟨⟨hx, hb, hml, hown, hts⟩, hr, hlocks, hK, hA, hR, hcs, hSO⟩ := C.x
  intro H locs la hP hD hS hl
  exact va_mmin hx hb (hml.trans hl.1.symm) hown (hts _ hlk) (hts _ ok_yJ9_min_7cf53.2) (hts _ ok_yJ9_min_7cf53.1.2.1) (hts _ ck_yJ9_min_7cf53) (by omega) (by omega) hcs.1 hcs.2 hd (k H locs la hP hD hS hl)
theorem V_abs (C : Ctx E cc own kk ret) {idx : Nat} (hd : decode cc pc = .ok (.invokestatic idx, 3)) (hlk : Cond.methodLink own idx Lib.Math.abs.name ∈ T0) {x : Int32} (hk : 1 ≤ kk) (hroom : (st.map fun v => v.category).sum ≤ 8) (k : V E Q ws (pc + 3) ls (.int (jabs x) :: st)) : V E Q ws pc ls (.int x :: st) := by
  obtain ⟨p, l, e, R, s, m, args, below, meth, c, G, A, nL, kc, ks⟩ := E
  obtain ⟨⟨hx, hb, hml, hown, hts⟩, hr, hlocks, hK, hA, hR, hcs, hSO⟩ := C.x
  intro H locs la hP hD hS hl
  exact va_mabs hx hb (hml.trans hl.1.symm) hown (hts _ hlk) (hts _ ok_yJ9_abs_0f7a4.2) (hts _ ok_yJ9_abs_0f7a4.1.2.1) (hts _ ck_yJ9_abs_0f7a4) (by omega) (by omega) hcs.1 hcs.2 hd (k H locs la hP hD hS hl)
end VM
section VU
variable {E : VE} {Q : State → Prop} {ws : va_W} {pc : Nat} {ls : List (Nat × Value)} {st : List Value}
theorem V_topi {x y : Int32} (e : some x = some y) (k : V E Q ws pc ls (.int y :: st)) : V E Q ws pc ls (.int x :: st) := by
  cases e
  exact k
theorem V_topl {x y : Int64} (e : some x = some y) (k : V E Q ws pc ls (.long y :: st)) : V E Q ws pc ls (.long x :: st) := by
  cases e
  exact k
theorem V_top2 {v : Value} {x y : Int32} (e : some x = some y) (k : V E Q ws pc ls (v :: .int y :: st)) : V E Q ws pc ls (v :: .int x :: st) := by
  cases e
  exact k
end VU
theorem nb0 : narrow .boolean (.int (0 : Int32)) = .int 0 := rfl
theorem nb1 : narrow .boolean (.int (1 : Int32)) = .int 1 := rfl
