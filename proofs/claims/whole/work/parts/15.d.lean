set_option maxRecDepth 100000 in
set_option maxHeartbeats 400000 in
theorem cfX0_tally_j51 {E : VE} (C : Ctx E cX0_tally RX0 3 none) (hn : E.nL = 5) {a0 : Nat → Nat} {a1 : Nat → Nat} {p2 : Int64} {S1 : HallT} {s0 : Int64} {s1 : Int64} {S0 : DwT} {out : DwT} (h : fX0_tally_j51 p2 S1 s0 s1 S0 = some out) : V E (QR E none (wdW E.G a0 out ++ wdH E.G a1 S1)) (wdW E.G a0 S0 ++ wdH E.G a1 S1) 51 [] [.long s0, .long s1, .ref (a0 0)] := by
  unfold fX0_tally_j51 at h
  refine V_pb C hn [(.ladd, 1)] (pc' := 52) (ls' := []) (st' := [.long (s1 + s0), .ref (a0 0)]) (decB_ok (by decide +kernel)) rfl rfl ?_
  obtain ⟨x13, e14, h⟩ := bnd h
  refine V_topl e14 ?_
  obtain ⟨w15, e16, h⟩ := bnd h
  refine V_put C (v := .long x13) (ws' := wdW E.G a0 w15 ++ wdH E.G a1 S1) (by decide +kernel) 0 2 pk_RX0_22 rfl rfl rfl (Nat.le_of_ble_eq_true rfl) (by cases e16; rfl) ?_
  have h := Option.some.inj h
  subst h
  exact V_vret C (by decide +kernel)
set_option maxRecDepth 100000 in
set_option maxHeartbeats 400000 in
theorem cfX0_tally {l : Launch} {G : GG} (a0 : Nat → Nat) (a1 : Nat → Nat) {p2 : Int64} {S0 : DwT} {S1 : HallT} {out : DwT} (h : fX0_tally p2 S0 S1 = some out) : Con l G 3 yX0_tally cX0_tally 5 none [.ref (a0 0), .ref (a1 0), .long p2] (wdW G a0 S0 ++ wdH G a1 S1) none (wdW G a0 out ++ wdH G a1 S1) := by
  refine Con_of (by decide +kernel) (Nat.le_of_ble_eq_true rfl) (fun E hl hG hn C => ?_)
  subst hl
  subst hG
  have C : Ctx E cX0_tally RX0 3 none := C
  show V E _ _ 0 [(0, .ref (a0 0)), (1, .ref (a1 0)), (2, .long p2)] []
  unfold fX0_tally at h
  refine V_pb C hn [(.aload_n 1, 1)] (pc' := 1) (ls' := [(0, .ref (a0 0)), (1, .ref (a1 0)), (2, .long p2)]) (st' := [.ref (a1 0)]) (decB_ok (by decide +kernel)) rfl rfl ?_
  obtain ⟨q1, h2, h⟩ := bnd h
  refine V_callVp C (As := []) (rest := []) (by decide +kernel) ok_yX1_litWeight mk_RX0_58 (cfX1_litWeight (l := E.l) (G := E.G) a1 h2) [1, 2, 3, 4] (q0 := 0) rfl rfl rfl rfl rfl rfl rfl (Nat.le_of_ble_eq_true rfl) (Nat.le_of_ble_eq_true rfl) (Nat.le_of_ble_eq_true rfl) ?_
  show V E _ (wdW E.G a0 S0 ++ wdH E.G a1 S1) 4 [(0, .ref (a0 0)), (1, .ref (a1 0)), (2, .long p2)] [.int q1]
  refine V_pb C hn [(.istore 4, 2), (.aload_n 0, 1), (.dup, 1)] (pc' := 8) (ls' := [(0, .ref (a0 0)), (1, .ref (a1 0)), (2, .long p2), (4, .int q1)]) (st' := [.ref (a0 0), .ref (a0 0)]) (decB_ok (by decide +kernel)) rfl rfl ?_
  refine V_get C (v := .long (dw_all S0)) (by decide +kernel) 0 1 fk_RX0_18 rfl rfl ?_
  refine V_pb C hn [(.lload_n 2, 1), (.ladd, 1)] (pc' := 13) (ls' := [(0, .ref (a0 0)), (1, .ref (a1 0)), (2, .long p2), (4, .int q1)]) (st' := [.long ((dw_all S0) + p2), .ref (a0 0)]) (decB_ok (by decide +kernel)) rfl rfl ?_
  obtain ⟨x3, e4, h⟩ := bnd h
  refine V_topl e4 ?_
  obtain ⟨w5, e6, h⟩ := bnd h
  refine V_put C (v := .long x3) (ws' := wdW E.G a0 w5 ++ wdH E.G a1 S1) (by decide +kernel) 0 1 pk_RX0_18 rfl rfl rfl (Nat.le_of_ble_eq_true rfl) (by cases e6; rfl) ?_
  refine V_pb C hn [(.aload_n 0, 1), (.dup, 1)] (pc' := 18) (ls' := [(0, .ref (a0 0)), (1, .ref (a1 0)), (2, .long p2), (4, .int q1)]) (st' := [.ref (a0 0), .ref (a0 0)]) (decB_ok (by decide +kernel)) rfl rfl ?_
  refine V_get C (v := .long (dw_voted w5)) (by decide +kernel) 0 3 fk_RX0_25 rfl rfl ?_
  refine V_pb C hn [(.lload_n 2, 1), (.iload 4, 2), (.i2l, 1), (.lmul, 1), (.ladd, 1)] (pc' := 27) (ls' := [(0, .ref (a0 0)), (1, .ref (a1 0)), (2, .long p2), (4, .int q1)]) (st' := [.long ((dw_voted w5) + (p2 * q1.toInt64)), .ref (a0 0)]) (decB_ok (by decide +kernel)) rfl rfl ?_
  obtain ⟨x7, e8, h⟩ := bnd h
  refine V_topl e8 ?_
  obtain ⟨w9, e10, h⟩ := bnd h
  refine V_put C (v := .long x7) (ws' := wdW E.G a0 w9 ++ wdH E.G a1 S1) (by decide +kernel) 0 3 pk_RX0_25 rfl rfl rfl (Nat.le_of_ble_eq_true rfl) (by cases e10; rfl) ?_
  refine V_pb C hn [(.aload_n 0, 1), (.dup, 1)] (pc' := 32) (ls' := [(0, .ref (a0 0)), (1, .ref (a1 0)), (2, .long p2), (4, .int q1)]) (st' := [.ref (a0 0), .ref (a0 0)]) (decB_ok (by decide +kernel)) rfl rfl ?_
  refine V_get C (v := .long (dw_carried w9)) (by decide +kernel) 0 2 fk_RX0_22 rfl rfl ?_
  refine V_pb C hn [(.iconst 2, 1), (.iload 4, 2), (.imul, 1), (.aload_n 1, 1)] (pc' := 40) (ls' := [(0, .ref (a0 0)), (1, .ref (a1 0)), (2, .long p2), (4, .int q1)]) (st' := [.ref (a1 0), .int ((2 : Int32) * q1), .long (dw_carried w9), .ref (a0 0)]) (decB_ok (by decide +kernel)) rfl rfl ?_
  obtain ⟨q11, h12, h⟩ := bnd h
  refine V_callVp C (As := []) (rest := [.int ((2 : Int32) * q1), .long (dw_carried w9), .ref (a0 0)]) (by decide +kernel) ok_yX1_weightInAll mk_RX0_62 (cfX1_weightInAll (l := E.l) (G := E.G) a1 h12) [1, 2, 3, 4] (q0 := 0) rfl rfl rfl rfl rfl rfl rfl (Nat.le_of_ble_eq_true rfl) (Nat.le_of_ble_eq_true rfl) (Nat.le_of_ble_eq_true rfl) ?_
  show V E _ (wdW E.G a0 w9 ++ wdH E.G a1 S1) 43 [(0, .ref (a0 0)), (1, .ref (a1 0)), (2, .long p2), (4, .int q1)] [.int q11, .int ((2 : Int32) * q1), .long (dw_carried w9), .ref (a0 0)]
  refine V_ic_le C (off := 7) (tgt := 50) (by decide +kernel) (by decide) h (fun _ h => ?_) (fun _ h => ?_)
  · refine V_pb C hn [(.lconst 0, 1)] (pc' := 51) (ls' := [(0, .ref (a0 0)), (1, .ref (a1 0)), (2, .long p2), (4, .int q1)]) (st' := [.long (0 : Int64), .long (dw_carried w9), .ref (a0 0)]) (decB_ok (by decide +kernel)) rfl rfl ?_
    refine V_sub (ls' := []) rfl ?_
    exact cfX0_tally_j51 C hn h
  · refine V_pb C hn [(.lload_n 2, 1)] (pc' := 47) (ls' := [(0, .ref (a0 0)), (1, .ref (a1 0)), (2, .long p2), (4, .int q1)]) (st' := [.long p2, .long (dw_carried w9), .ref (a0 0)]) (decB_ok (by decide +kernel)) rfl rfl ?_
    refine V_goto C (off := 4) (tgt := 51) (by decide +kernel) (by decide) ?_
    refine V_sub (ls' := []) rfl ?_
    exact cfX0_tally_j51 C hn h
set_option maxRecDepth 100000 in
set_option maxHeartbeats 400000 in
theorem cfX0_waysOf_j32 {E : VE} (C : Ctx E cX0_waysOf RX0 0 (some .long)) (hn : E.nL = 5) {p0 : Int32} {p1 : Int32} {v4 : Int32} {s0 : Int64} {s1 : Int64} {out : Int64} {k5 : Int64 → Int32 → Option (Int64)} (hk5 : ∀ (v2 : Int64) (v4 : Int32), k5 v2 v4 = some out → V E (QR E (some (.long out)) (([] : va_W))) (([] : va_W)) 5 [(0, .int p0), (1, .int p1), (2, .long v2), (4, .int v4)] []) (h : fX0_waysOf_j32 k5 p0 p1 v4 s0 s1 = some out) : V E (QR E (some (.long out)) (([] : va_W))) (([] : va_W)) 32 [(0, .int p0), (1, .int p1), (4, .int v4)] [.long s0, .long s1] := by
  unfold fX0_waysOf_j32 at h
  refine V_pb C hn [(.lmul, 1), (.lstore_n 2, 1), (.iinc 4 1, 3)] (pc' := 37) (ls' := [(0, .int p0), (1, .int p1), (2, .long (s1 * s0)), (4, .int (v4 + (1 : Int32)))]) (st' := []) (decB_ok (by decide +kernel)) rfl rfl ?_
  refine V_goto C (off := -32) (tgt := 5) (by decide +kernel) (by decide) ?_
  refine V_sub (ls' := [(0, .int p0), (1, .int p1), (2, .long (s1 * s0)), (4, .int (v4 + (1 : Int32)))]) rfl ?_
  exact hk5 _ _ h
set_option maxRecDepth 100000 in
set_option maxHeartbeats 400000 in
theorem cfX0_waysOf_L5 {E : VE} (C : Ctx E cX0_waysOf RX0 0 (some .long)) (hn : E.nL = 5) {p0 : Int32} {p1 : Int32} {out : Int64} : ∀ (n : Nat) (v2 : Int64) (v4 : Int32), fX0_waysOf_L5 p0 p1 n v2 v4 = some out → V E (QR E (some (.long out)) (([] : va_W))) (([] : va_W)) 5 [(0, .int p0), (1, .int p1), (2, .long v2), (4, .int v4)] [] := by
  intro n
  induction n with
  | zero =>
    intro v2 v4 h
    cases h
  | succ n ih =>
    intro v2 v4 h
    unfold fX0_waysOf_L5 at h
    refine V_pb C hn [(.iload 4, 2), (.iconst 4, 1)] (pc' := 8) (ls' := [(0, .int p0), (1, .int p1), (2, .long v2), (4, .int v4)]) (st' := [.int (4 : Int32), .int v4]) (decB_ok (by decide +kernel)) rfl rfl ?_
    refine V_ic_ge C (off := 32) (tgt := 40) (by decide +kernel) (by decide) h (fun _ h => ?_) (fun _ h => ?_)
    · refine V_pb C hn [(.lload_n 2, 1)] (pc' := 41) (ls' := [(0, .int p0), (1, .int p1), (2, .long v2), (4, .int v4)]) (st' := [.long v2]) (decB_ok (by decide +kernel)) rfl rfl ?_
      have h := Option.some.inj h
      subst h
      exact V_lret C (by decide +kernel)
    · refine V_pb C hn [(.lload_n 2, 1), (.iload_n 0, 1), (.iload 4, 2), (.ishr, 1), (.iconst 1, 1), (.iand, 1), (.iconst 1, 1)] (pc' := 19) (ls' := [(0, .int p0), (1, .int p1), (2, .long v2), (4, .int v4)]) (st' := [.int (1 : Int32), .int ((jshr p0 v4) &&& (1 : Int32)), .long v2]) (decB_ok (by decide +kernel)) rfl rfl ?_
      refine V_ic_ne C (off := 8) (tgt := 27) (by decide +kernel) (by decide) h (fun _ h => ?_) (fun _ h => ?_)
      · refine V_pb C hn [(.iload_n 1, 1), (.i2l, 1)] (pc' := 24) (ls' := [(0, .int p0), (1, .int p1), (2, .long v2), (4, .int v4)]) (st' := [.long p1.toInt64, .long v2]) (decB_ok (by decide +kernel)) rfl rfl ?_
        refine V_goto C (off := 8) (tgt := 32) (by decide +kernel) (by decide) ?_
        refine V_sub (ls' := [(0, .int p0), (1, .int p1), (4, .int v4)]) rfl ?_
        exact cfX0_waysOf_j32 C hn (k5 := (fun v2 v4 => fX0_waysOf_L5 p0 p1 n v2 v4)) (fun v2 v4 h => ih v2 v4 h) h
      · refine V_pb C hn [(.bipush 12, 2), (.iload_n 1, 1), (.isub, 1), (.i2l, 1)] (pc' := 32) (ls' := [(0, .int p0), (1, .int p1), (2, .long v2), (4, .int v4)]) (st' := [.long ((12 : Int32) - p1).toInt64, .long v2]) (decB_ok (by decide +kernel)) rfl rfl ?_
        refine V_sub (ls' := [(0, .int p0), (1, .int p1), (4, .int v4)]) rfl ?_
        exact cfX0_waysOf_j32 C hn (k5 := (fun v2 v4 => fX0_waysOf_L5 p0 p1 n v2 v4)) (fun v2 v4 h => ih v2 v4 h) h
set_option maxRecDepth 100000 in
set_option maxHeartbeats 400000 in
theorem cfX0_waysOf {l : Launch} {G : GG} {p0 : Int32} {p1 : Int32} {out : Int64} (h : fX0_waysOf p0 p1 = some out) : Con l G 0 yX0_waysOf cX0_waysOf 5 (some .long) [.int p0, .int p1] (([] : va_W)) (some (.long out)) (([] : va_W)) := by
  refine Con_of (by decide +kernel) (Nat.le_of_ble_eq_true rfl) (fun E hl hG hn C => ?_)
  subst hl
  subst hG
  have C : Ctx E cX0_waysOf RX0 0 (some .long) := C
  show V E _ _ 0 [(0, .int p0), (1, .int p1)] []
  unfold fX0_waysOf at h
  refine V_pb C hn [(.lconst 1, 1), (.lstore_n 2, 1), (.iconst 0, 1), (.istore 4, 2)] (pc' := 5) (ls' := [(0, .int p0), (1, .int p1), (2, .long (1 : Int64)), (4, .int (0 : Int32))]) (st' := []) (decB_ok (by decide +kernel)) rfl rfl ?_
  refine V_sub (ls' := [(0, .int p0), (1, .int p1), (2, .long (1 : Int64)), (4, .int (0 : Int32))]) rfl ?_
  exact cfX0_waysOf_L5 C hn FU _ _ h
set_option maxRecDepth 100000 in
set_option maxHeartbeats 400000 in
theorem cfX0_branch_j38 {d : Nat} {kr : Int32 → Int32 → Int64 → DrT → Option (DrT)} {E : VE} (C : Ctx E cX0_branch RX0 (4 + 2 * (d + 1)) none) (hn : E.nL = 10) (ihd : ∀ (a0 : Nat → Nat) (p1 : Int32) (p2 : Int32) (p3 : Int64) (S0 : DrT) (out : DrT), kr p1 p2 p3 S0 = some out → Con E.l E.G (4 + 2 * d) yX0_branch cX0_branch 10 none [.ref (a0 0), .int p1, .int p2, .long p3] (wdD E.G a0 S0) none (wdD E.G a0 out)) {a0 : Nat → Nat} {p1 : Int32} {p2 : Int32} {p3 : Int64} {S0 : DrT} {out : DrT} (hf0 : inb p1 4 = true) (h : fX0_branch_j38 kr p1 p2 p3 S0 = some out) : V E (QR E none (wdD E.G a0 out)) (wdD E.G a0 S0) 38 [(0, .ref (a0 0)), (3, .long p3), (5, .ref (a0 (2 + 4 * ix p1)))] [] := by
  unfold fX0_branch_j38 at h
  refine V_pb C hn [(.aload_n 0, 1), (.aload 5, 2), (.lload_n 3, 1)] (pc' := 42) (ls' := [(0, .ref (a0 0)), (3, .long p3), (5, .ref (a0 (2 + 4 * ix p1)))]) (st' := [.long p3, .ref (a0 (2 + 4 * ix p1)), .ref (a0 0)]) (decB_ok (by decide +kernel)) rfl rfl ?_
  obtain ⟨q2, h3, h⟩ := bnd h
  refine V_callV (ws' := wdD E.G a0 (ds_w S0 q2)) C (As := [.ref (a0 (2 + 4 * ix p1)), .long p3]) (rest := []) (by decide +kernel) ok_yX0_tally mk_RX0_36 (cfX0_tally (l := E.l) (G := E.G) a0 (fun j => a0 (2 + 4 * ix p1 + j)) h3) [0, (2 + 4 * ix p1), (2 + 4 * ix p1 + 1), (2 + 4 * ix p1 + 2), (2 + 4 * ix p1 + 3)] (q0 := 0) rfl (fcm_DrO_Hall__w_deep__Draughts (inb_lt hf0)) (fnm_DrO_Hall__w_deep__Draughts hf0) rfl (fsm_DrO_Hall__w_deep__Draughts hf0 _) rfl rfl rfl rfl (by omega) (Nat.le_of_ble_eq_true rfl) (Nat.le_of_ble_eq_true rfl) ?_
  show V E _ (wdD E.G a0 (ds_w S0 q2)) 45 [(0, .ref (a0 0)), (3, .long p3), (5, .ref (a0 (2 + 4 * ix p1)))] []
  have h := Option.some.inj h
  subst h
  exact V_vret C (by decide +kernel)
set_option maxRecDepth 100000 in
set_option maxHeartbeats 400000 in
theorem cfX0_branch_j117 {d : Nat} {kr : Int32 → Int32 → Int64 → DrT → Option (DrT)} {E : VE} (C : Ctx E cX0_branch RX0 (4 + 2 * (d + 1)) none) (hn : E.nL = 10) (ihd : ∀ (a0 : Nat → Nat) (p1 : Int32) (p2 : Int32) (p3 : Int64) (S0 : DrT) (out : DrT), kr p1 p2 p3 S0 = some out → Con E.l E.G (4 + 2 * d) yX0_branch cX0_branch 10 none [.ref (a0 0), .int p1, .int p2, .long p3] (wdD E.G a0 S0) none (wdD E.G a0 out)) {a0 : Nat → Nat} {p1 : Int32} {p2 : Int32} {p3 : Int64} {v7 : Int32} {S0 : DrT} {out : DrT} {k59 : Int32 → DrT → Option (DrT)} (hk59 : ∀ (v7 : Int32) (S0 : DrT), k59 v7 S0 = some out → V E (QR E none (wdD E.G a0 out)) (wdD E.G a0 S0) 59 [(0, .ref (a0 0)), (1, .int p1), (2, .int p2), (3, .long p3), (5, .ref (a0 (2 + 4 * ix p1))), (6, .ref (a0 (2 + 4 * ix (p1 + (1 : Int32))))), (7, .int v7)] []) (hf0 : inb p1 4 = true) (hf1 : inb (p1 + (1 : Int32)) 4 = true) (h : fX0_branch_j117 kr k59 p1 p2 p3 v7 S0 = some out) : V E (QR E none (wdD E.G a0 out)) (wdD E.G a0 S0) 117 [(0, .ref (a0 0)), (1, .int p1), (2, .int p2), (3, .long p3), (5, .ref (a0 (2 + 4 * ix p1))), (6, .ref (a0 (2 + 4 * ix (p1 + (1 : Int32))))), (7, .int v7)] [] := by
  unfold fX0_branch_j117 at h
  refine V_pb C hn [(.iinc 7 1, 3)] (pc' := 120) (ls' := [(0, .ref (a0 0)), (1, .int p1), (2, .int p2), (3, .long p3), (5, .ref (a0 (2 + 4 * ix p1))), (6, .ref (a0 (2 + 4 * ix (p1 + (1 : Int32))))), (7, .int (v7 + (1 : Int32)))]) (st' := []) (decB_ok (by decide +kernel)) rfl rfl ?_
  refine V_goto C (off := -61) (tgt := 59) (by decide +kernel) (by decide) ?_
  refine V_sub (ls' := [(0, .ref (a0 0)), (1, .int p1), (2, .int p2), (3, .long p3), (5, .ref (a0 (2 + 4 * ix p1))), (6, .ref (a0 (2 + 4 * ix (p1 + (1 : Int32))))), (7, .int (v7 + (1 : Int32)))]) rfl ?_
  exact hk59 _ _ h
set_option maxRecDepth 100000 in
set_option maxHeartbeats 400000 in
theorem cfX0_branch_L59 {d : Nat} {kr : Int32 → Int32 → Int64 → DrT → Option (DrT)} {E : VE} (C : Ctx E cX0_branch RX0 (4 + 2 * (d + 1)) none) (hn : E.nL = 10) (ihd : ∀ (a0 : Nat → Nat) (p1 : Int32) (p2 : Int32) (p3 : Int64) (S0 : DrT) (out : DrT), kr p1 p2 p3 S0 = some out → Con E.l E.G (4 + 2 * d) yX0_branch cX0_branch 10 none [.ref (a0 0), .int p1, .int p2, .long p3] (wdD E.G a0 S0) none (wdD E.G a0 out)) {a0 : Nat → Nat} {p1 : Int32} {p2 : Int32} {p3 : Int64} {out : DrT} (hf0 : inb p1 4 = true) (hf1 : inb (p1 + (1 : Int32)) 4 = true) : ∀ (n : Nat) (v7 : Int32) (S0 : DrT), fX0_branch_L59 kr p1 p2 p3 n v7 S0 = some out → V E (QR E none (wdD E.G a0 out)) (wdD E.G a0 S0) 59 [(0, .ref (a0 0)), (1, .int p1), (2, .int p2), (3, .long p3), (5, .ref (a0 (2 + 4 * ix p1))), (6, .ref (a0 (2 + 4 * ix (p1 + (1 : Int32))))), (7, .int v7)] [] := by
  intro n
  induction n with
  | zero =>
    intro v7 S0 h
    cases h
  | succ n ih =>
    intro v7 S0 h
    unfold fX0_branch_L59 at h
    refine V_pb C hn [(.iload 7, 2), (.bipush 16, 2)] (pc' := 63) (ls' := [(0, .ref (a0 0)), (1, .int p1), (2, .int p2), (3, .long p3), (5, .ref (a0 (2 + 4 * ix p1))), (6, .ref (a0 (2 + 4 * ix (p1 + (1 : Int32))))), (7, .int v7)]) (st' := [.int (16 : Int32), .int v7]) (decB_ok (by decide +kernel)) rfl rfl ?_
    refine V_ic_ge C (off := 60) (tgt := 123) (by decide +kernel) (by decide) h (fun _ h => ?_) (fun _ h => ?_)
    · have h := Option.some.inj h
      subst h
      exact V_vret C (by decide +kernel)
    · refine V_pb C hn [(.iload 7, 2), (.aload 5, 2)] (pc' := 70) (ls' := [(0, .ref (a0 0)), (1, .int p1), (2, .int p2), (3, .long p3), (5, .ref (a0 (2 + 4 * ix p1))), (6, .ref (a0 (2 + 4 * ix (p1 + (1 : Int32))))), (7, .int v7)]) (st' := [.ref (a0 (2 + 4 * ix p1)), .int v7]) (decB_ok (by decide +kernel)) rfl rfl ?_
      refine V_get C (v := .int (h_chance ((d_deep S0) (ix p1)))) (by decide +kernel) (2 + 4 * ix p1) 10 fk_RX0_40 (fg_Draughts_deep_0 (inb_lt hf0)) rfl ?_
      obtain ⟨q5, h6, h⟩ := bnd h
      refine V_callSp C (As := [.int v7, .int (h_chance ((d_deep S0) (ix p1)))]) (rest := []) (by decide +kernel) ok_yX0_waysOf mk_RX0_44 (cfX0_waysOf (l := E.l) (G := E.G) h6) [] rfl rfl rfl rfl (by omega) (Nat.le_of_ble_eq_true rfl) (Nat.le_of_ble_eq_true rfl) ?_
      show V E _ (wdD E.G a0 S0) 76 [(0, .ref (a0 0)), (1, .int p1), (2, .int p2), (3, .long p3), (5, .ref (a0 (2 + 4 * ix p1))), (6, .ref (a0 (2 + 4 * ix (p1 + (1 : Int32))))), (7, .int v7)] [.long q5]
      refine V_pb C hn [(.lstore 8, 2), (.lload 8, 2), (.lconst 0, 1), (.lcmp, 1)] (pc' := 82) (ls' := [(0, .ref (a0 0)), (1, .int p1), (2, .int p2), (3, .long p3), (5, .ref (a0 (2 + 4 * ix p1))), (6, .ref (a0 (2 + 4 * ix (p1 + (1 : Int32))))), (7, .int v7), (8, .long q5)]) (st' := [.int (lg_cmp q5 (0 : Int64))]) (decB_ok (by decide +kernel)) rfl rfl ?_
      refine V_if_le C (off := 35) (tgt := 117) (by decide +kernel) (by decide) h (fun _ h => ?_) (fun _ h => ?_)
      · refine V_sub (ls' := [(0, .ref (a0 0)), (1, .int p1), (2, .int p2), (3, .long p3), (5, .ref (a0 (2 + 4 * ix p1))), (6, .ref (a0 (2 + 4 * ix (p1 + (1 : Int32))))), (7, .int v7)]) rfl ?_
        exact cfX0_branch_j117 C hn ihd (k59 := (fun v7 S0 => fX0_branch_L59 kr p1 p2 p3 n v7 S0)) (fun v7 S0 h => ih v7 S0 h) hf0 hf1 h
      · refine V_pb C hn [(.aload 6, 2), (.aload 5, 2)] (pc' := 89) (ls' := [(0, .ref (a0 0)), (1, .int p1), (2, .int p2), (3, .long p3), (5, .ref (a0 (2 + 4 * ix p1))), (6, .ref (a0 (2 + 4 * ix (p1 + (1 : Int32))))), (7, .int v7), (8, .long q5)]) (st' := [.ref (a0 (2 + 4 * ix p1)), .ref (a0 (2 + 4 * ix (p1 + (1 : Int32))))]) (decB_ok (by decide +kernel)) rfl rfl ?_
        obtain ⟨q7, h8, h⟩ := bnd h
        obtain ⟨w9, e10, h⟩ := bnd h
        refine V_callV (ws' := wdD E.G a0 w9) C (As := [.ref (a0 (2 + 4 * ix p1))]) (rest := []) (by decide +kernel) ok_yX1_takePlaces mk_RX0_48 (cfX1_takePlaces (l := E.l) (G := E.G) (fun j => a0 (2 + 4 * ix (p1 + (1 : Int32)) + j)) (fun j => a0 (2 + 4 * ix p1 + j)) h8) [(2 + 4 * ix (p1 + (1 : Int32))), (2 + 4 * ix (p1 + (1 : Int32)) + 1), (2 + 4 * ix (p1 + (1 : Int32)) + 2), (2 + 4 * ix (p1 + (1 : Int32)) + 3), (2 + 4 * ix p1), (2 + 4 * ix p1 + 1), (2 + 4 * ix p1 + 2), (2 + 4 * ix p1 + 3)] (q0 := 0) rfl (fcm_Hall_Hall__deep_deep__Draughts (inb_lt hf1) (inb_lt hf0)) (fnm_Hall_Hall__deep_deep__Draughts hf1 hf0) rfl (by cases e10; exact (fsm_Hall_Hall__deep_deep__Draughts hf1 hf0 _)) rfl rfl rfl rfl (by omega) (Nat.le_of_ble_eq_true rfl) (Nat.le_of_ble_eq_true rfl) ?_
        show V E _ (wdD E.G a0 w9) 92 [(0, .ref (a0 0)), (1, .int p1), (2, .int p2), (3, .long p3), (5, .ref (a0 (2 + 4 * ix p1))), (6, .ref (a0 (2 + 4 * ix (p1 + (1 : Int32))))), (7, .int v7), (8, .long q5)] []
        refine V_pb C hn [(.aload 6, 2), (.iload 7, 2)] (pc' := 96) (ls' := [(0, .ref (a0 0)), (1, .int p1), (2, .int p2), (3, .long p3), (5, .ref (a0 (2 + 4 * ix p1))), (6, .ref (a0 (2 + 4 * ix (p1 + (1 : Int32))))), (7, .int v7), (8, .long q5)]) (st' := [.int v7, .ref (a0 (2 + 4 * ix (p1 + (1 : Int32))))]) (decB_ok (by decide +kernel)) rfl rfl ?_
        obtain ⟨w11, e12, h⟩ := bnd h
        refine V_put C (v := .int v7) (ws' := wdD E.G a0 w11) (by decide +kernel) (2 + 4 * ix (p1 + (1 : Int32))) 5 pk_RX0_51 (fg_Draughts_deep_0 (inb_lt hf1)) rfl rfl (Nat.le_of_ble_eq_true rfl) (by cases e12; exact fp_Draughts_deep_doors (inb_lt hf1) v7) ?_
        refine V_pb C hn [(.aload 6, 2), (.iconst 1, 1)] (pc' := 102) (ls' := [(0, .ref (a0 0)), (1, .int p1), (2, .int p2), (3, .long p3), (5, .ref (a0 (2 + 4 * ix p1))), (6, .ref (a0 (2 + 4 * ix (p1 + (1 : Int32))))), (7, .int v7), (8, .long q5)]) (st' := [.int (1 : Int32), .ref (a0 (2 + 4 * ix (p1 + (1 : Int32))))]) (decB_ok (by decide +kernel)) rfl rfl ?_
        obtain ⟨q13, h14, h⟩ := bnd h
        obtain ⟨w15, e16, h⟩ := bnd h
        refine V_callV (ws' := wdD E.G a0 w15) C (As := [.int (1 : Int32)]) (rest := []) (by decide +kernel) ok_yX1_goOn mk_RX0_54 (cfX1_goOn (l := E.l) (G := E.G) (fun j => a0 (2 + 4 * ix (p1 + (1 : Int32)) + j)) h14) [(2 + 4 * ix (p1 + (1 : Int32))), (2 + 4 * ix (p1 + (1 : Int32)) + 1), (2 + 4 * ix (p1 + (1 : Int32)) + 2), (2 + 4 * ix (p1 + (1 : Int32)) + 3)] (q0 := 0) rfl (fc_Draughts_deep (inb_lt hf1)) fn_Draughts_deep rfl (by cases e16; exact (fs_Draughts_deep (inb_lt hf1) _)) rfl rfl rfl rfl (by omega) (Nat.le_of_ble_eq_true rfl) (Nat.le_of_ble_eq_true rfl) ?_
        show V E _ (wdD E.G a0 w15) 105 [(0, .ref (a0 0)), (1, .int p1), (2, .int p2), (3, .long p3), (5, .ref (a0 (2 + 4 * ix p1))), (6, .ref (a0 (2 + 4 * ix (p1 + (1 : Int32))))), (7, .int v7), (8, .long q5)] []
        refine V_pb C hn [(.aload_n 0, 1), (.iload_n 1, 1), (.iconst 1, 1), (.iadd, 1), (.iload_n 2, 1), (.lload_n 3, 1), (.lload 8, 2), (.lmul, 1)] (pc' := 114) (ls' := [(0, .ref (a0 0)), (1, .int p1), (2, .int p2), (3, .long p3), (5, .ref (a0 (2 + 4 * ix p1))), (6, .ref (a0 (2 + 4 * ix (p1 + (1 : Int32))))), (7, .int v7), (8, .long q5)]) (st' := [.long (p3 * q5), .int p2, .int (p1 + (1 : Int32)), .ref (a0 0)]) (decB_ok (by decide +kernel)) rfl rfl ?_
        obtain ⟨q17, h18, h⟩ := bnd h
        refine V_callS0 C (As := [.ref (a0 0), .int (p1 + (1 : Int32)), .int p2, .long (p3 * q5)]) (rest := []) (by decide +kernel) ok_yX0_branch mk_RX0_32 (ihd a0 _ _ _ _ _ h18) rfl rfl rfl (by omega) (Nat.le_of_ble_eq_true rfl) (Nat.le_of_ble_eq_true rfl) ?_
        show V E _ (wdD E.G a0 q17) 117 [(0, .ref (a0 0)), (1, .int p1), (2, .int p2), (3, .long p3), (5, .ref (a0 (2 + 4 * ix p1))), (6, .ref (a0 (2 + 4 * ix (p1 + (1 : Int32))))), (7, .int v7), (8, .long q5)] []
        refine V_sub (ls' := [(0, .ref (a0 0)), (1, .int p1), (2, .int p2), (3, .long p3), (5, .ref (a0 (2 + 4 * ix p1))), (6, .ref (a0 (2 + 4 * ix (p1 + (1 : Int32))))), (7, .int v7)]) rfl ?_
        exact cfX0_branch_j117 C hn ihd (k59 := (fun v7 S0 => fX0_branch_L59 kr p1 p2 p3 n v7 S0)) (fun v7 S0 h => ih v7 S0 h) hf0 hf1 h
set_option maxRecDepth 100000 in
set_option maxHeartbeats 400000 in
theorem cfX0_branch_all {l : Launch} {G : GG} : ∀ d : Nat, ∀ (a0 : Nat → Nat) (p1 : Int32) (p2 : Int32) (p3 : Int64) (S0 : DrT) (out : DrT), fX0_branch d p1 p2 p3 S0 = some out → Con l G (4 + 2 * d) yX0_branch cX0_branch 10 none [.ref (a0 0), .int p1, .int p2, .long p3] (wdD G a0 S0) none (wdD G a0 out) := by
  intro d
  induction d with
  | zero =>
    intro a0 p1 p2 p3 S0 out h
    cases h
  | succ d ihd =>
    intro a0 p1 p2 p3 S0 out h
    refine Con_of (by decide +kernel) (Nat.le_of_ble_eq_true rfl) (fun E hl hG hn C => ?_)
    subst hl
    subst hG
    have C : Ctx E cX0_branch RX0 (4 + 2 * (d + 1)) none := C
    show V E _ _ 0 [(0, .ref (a0 0)), (1, .int p1), (2, .int p2), (3, .long p3)] []
    unfold fX0_branch at h
    refine V_pb C hn [(.iload_n 1, 1)] (pc' := 1) (ls' := [(0, .ref (a0 0)), (1, .int p1), (2, .int p2), (3, .long p3)]) (st' := [.int p1]) (decB_ok (by decide +kernel)) rfl rfl ?_
    refine V_if_lt C (off := 12) (tgt := 13) (by decide +kernel) (by decide) h (fun _ h => ?_) (fun _ h => ?_)
    · have h := Option.some.inj h
      subst h
      exact V_vret C (by decide +kernel)
    · refine V_pb C hn [(.iload_n 1, 1), (.aload_n 0, 1)] (pc' := 6) (ls' := [(0, .ref (a0 0)), (1, .int p1), (2, .int p2), (3, .long p3)]) (st' := [.ref (a0 0), .int p1]) (decB_ok (by decide +kernel)) rfl rfl ?_
      refine V_get C (v := .ref (a0 1)) (by decide +kernel) 0 0 fk_RX0_11 rfl rfl ?_
      refine V_alen C (v := (4 : Int32)) (by decide +kernel) 1 2 rfl rfl rfl ?_
      refine V_ic_lt C (off := 4) (tgt := 14) (by decide +kernel) (by decide) h (fun _ h => ?_) (fun _ h => ?_)
      · refine V_pb C hn [(.aload_n 0, 1)] (pc' := 15) (ls' := [(0, .ref (a0 0)), (1, .int p1), (2, .int p2), (3, .long p3)]) (st' := [.ref (a0 0)]) (decB_ok (by decide +kernel)) rfl rfl ?_
        refine V_get C (v := .ref (a0 1)) (by decide +kernel) 0 0 fk_RX0_11 rfl rfl ?_
        refine V_pb C hn [(.iload_n 1, 1)] (pc' := 19) (ls' := [(0, .ref (a0 0)), (1, .int p1), (2, .int p2), (3, .long p3)]) (st' := [.int p1, .ref (a0 1)]) (decB_ok (by decide +kernel)) rfl rfl ?_
        refine V_aald3 C (b := a0 (2 + 4 * ix p1)) (by decide +kernel) 1 2 rfl rfl h rfl (fun hf1 h => ?_)
        refine V_pb C hn [(.astore 5, 2), (.iload_n 1, 1), (.iload_n 2, 1)] (pc' := 24) (ls' := [(0, .ref (a0 0)), (1, .int p1), (2, .int p2), (3, .long p3), (5, .ref (a0 (2 + 4 * ix p1)))]) (st' := [.int p2, .int p1]) (decB_ok (by decide +kernel)) rfl rfl ?_
        refine V_ic_ge C (off := 14) (tgt := 38) (by decide +kernel) (by decide) h (fun _ h => ?_) (fun _ h => ?_)
        · refine V_sub (ls' := [(0, .ref (a0 0)), (3, .long p3), (5, .ref (a0 (2 + 4 * ix p1)))]) rfl ?_
          exact cfX0_branch_j38 C hn ihd hf1 h
        · refine V_pb C hn [(.iload_n 1, 1), (.iconst 1, 1), (.iadd, 1), (.aload_n 0, 1)] (pc' := 31) (ls' := [(0, .ref (a0 0)), (1, .int p1), (2, .int p2), (3, .long p3), (5, .ref (a0 (2 + 4 * ix p1)))]) (st' := [.ref (a0 0), .int (p1 + (1 : Int32))]) (decB_ok (by decide +kernel)) rfl rfl ?_
          refine V_get C (v := .ref (a0 1)) (by decide +kernel) 0 0 fk_RX0_11 rfl rfl ?_
          refine V_alen C (v := (4 : Int32)) (by decide +kernel) 1 2 rfl rfl rfl ?_
          refine V_ic_lt C (off := 11) (tgt := 46) (by decide +kernel) (by decide) h (fun _ h => ?_) (fun _ h => ?_)
          · refine V_pb C hn [(.aload_n 0, 1)] (pc' := 47) (ls' := [(0, .ref (a0 0)), (1, .int p1), (2, .int p2), (3, .long p3), (5, .ref (a0 (2 + 4 * ix p1)))]) (st' := [.ref (a0 0)]) (decB_ok (by decide +kernel)) rfl rfl ?_
            refine V_get C (v := .ref (a0 1)) (by decide +kernel) 0 0 fk_RX0_11 rfl rfl ?_
            refine V_pb C hn [(.iload_n 1, 1), (.iconst 1, 1), (.iadd, 1)] (pc' := 53) (ls' := [(0, .ref (a0 0)), (1, .int p1), (2, .int p2), (3, .long p3), (5, .ref (a0 (2 + 4 * ix p1)))]) (st' := [.int (p1 + (1 : Int32)), .ref (a0 1)]) (decB_ok (by decide +kernel)) rfl rfl ?_
            refine V_aald3 C (b := a0 (2 + 4 * ix (p1 + (1 : Int32)))) (by decide +kernel) 1 2 rfl rfl h rfl (fun hf4 h => ?_)
            refine V_pb C hn [(.astore 6, 2), (.iconst 0, 1), (.istore 7, 2)] (pc' := 59) (ls' := [(0, .ref (a0 0)), (1, .int p1), (2, .int p2), (3, .long p3), (5, .ref (a0 (2 + 4 * ix p1))), (6, .ref (a0 (2 + 4 * ix (p1 + (1 : Int32))))), (7, .int (0 : Int32))]) (st' := []) (decB_ok (by decide +kernel)) rfl rfl ?_
            refine V_sub (ls' := [(0, .ref (a0 0)), (1, .int p1), (2, .int p2), (3, .long p3), (5, .ref (a0 (2 + 4 * ix p1))), (6, .ref (a0 (2 + 4 * ix (p1 + (1 : Int32))))), (7, .int (0 : Int32))]) rfl ?_
            exact cfX0_branch_L59 C hn ihd hf1 hf4 FU _ _ h
          · refine V_sub (ls' := [(0, .ref (a0 0)), (3, .long p3), (5, .ref (a0 (2 + 4 * ix p1)))]) rfl ?_
            exact cfX0_branch_j38 C hn ihd hf1 h
      · have h := Option.some.inj h
        subst h
        exact V_vret C (by decide +kernel)
set_option maxRecDepth 100000 in
set_option maxHeartbeats 4000000 in
theorem cfX0_reckon_j42 {E : VE} (C : Ctx E cX0_reckon RX0 15 none) (hn : E.nL = 4) {a0 : Nat → Nat} {a1 : Nat → Nat} {p2 : Int32} {S1 : HallT} {S0 : DrT} {out : DrT} (h : fX0_reckon_j42 p2 S1 S0 = some out) : V E (QR E none (wdD E.G a0 out ++ wdH E.G a1 S1)) (wdD E.G a0 S0 ++ wdH E.G a1 S1) 42 [(0, .ref (a0 0)), (2, .int p2)] [] := by
  unfold fX0_reckon_j42 at h
  refine V_pb C hn [(.aload_n 0, 1), (.iconst 0, 1), (.iload_n 2, 1), (.lconst 1, 1)] (pc' := 46) (ls' := [(0, .ref (a0 0)), (2, .int p2)]) (st' := [.long (1 : Int64), .int p2, .int (0 : Int32), .ref (a0 0)]) (decB_ok (by decide +kernel)) rfl rfl ?_
  obtain ⟨q7, h8, h⟩ := bnd h
  refine V_callS (ws' := wdD E.G a0 q7 ++ wdH E.G a1 S1) C (As := [.ref (a0 0), .int (0 : Int32), .int p2, .long (1 : Int64)]) (rest := []) (by decide +kernel) ok_yX0_branch mk_RX0_32 (cfX0_branch_all (l := E.l) (G := E.G) 5 a0 _ _ _ _ _ h8) [0, 1, 2, 3, 4, 5, 6, 7, 8, 9, 10, 11, 12, 13, 14, 15, 16, 17] rfl rfl rfl rfl (setm_left rfl) rfl (Nat.le_of_ble_eq_true rfl) (Nat.le_of_ble_eq_true rfl) (Nat.le_of_ble_eq_true rfl) ?_
  show V E _ (wdD E.G a0 q7 ++ wdH E.G a1 S1) 49 [(0, .ref (a0 0)), (2, .int p2)] []
  have h := Option.some.inj h
  subst h
  exact V_vret C (by decide +kernel)
set_option maxRecDepth 100000 in
set_option maxHeartbeats 4000000 in
theorem cfX0_reckon_L17 {E : VE} (C : Ctx E cX0_reckon RX0 15 none) (hn : E.nL = 4) {a0 : Nat → Nat} {a1 : Nat → Nat} {p2 : Int32} {S1 : HallT} {out : DrT} : ∀ (n : Nat) (v3 : Int32) (S0 : DrT), fX0_reckon_L17 p2 S1 n v3 S0 = some out → V E (QR E none (wdD E.G a0 out ++ wdH E.G a1 S1)) (wdD E.G a0 S0 ++ wdH E.G a1 S1) 17 [(0, .ref (a0 0)), (1, .ref (a1 0)), (2, .int p2), (3, .int v3)] [] := by
  intro n
  induction n with
  | zero =>
    intro v3 S0 h
    cases h
  | succ n ih =>
    intro v3 S0 h
    unfold fX0_reckon_L17 at h
    refine V_pb C hn [(.iload_n 3, 1), (.aload_n 0, 1)] (pc' := 19) (ls' := [(0, .ref (a0 0)), (1, .ref (a1 0)), (2, .int p2), (3, .int v3)]) (st' := [.ref (a0 0), .int v3]) (decB_ok (by decide +kernel)) rfl rfl ?_
    refine V_get C (v := .ref (a0 1)) (by decide +kernel) 0 0 fk_RX0_11 rfl rfl ?_
    refine V_alen C (v := (4 : Int32)) (by decide +kernel) 1 2 rfl rfl rfl ?_
    refine V_ic_ge C (off := 19) (tgt := 42) (by decide +kernel) (by decide) h (fun _ h => ?_) (fun _ h => ?_)
    · refine V_sub (ls' := [(0, .ref (a0 0)), (2, .int p2)]) rfl ?_
      exact cfX0_reckon_j42 C hn h
    · refine V_pb C hn [(.aload_n 0, 1)] (pc' := 27) (ls' := [(0, .ref (a0 0)), (1, .ref (a1 0)), (2, .int p2), (3, .int v3)]) (st' := [.ref (a0 0)]) (decB_ok (by decide +kernel)) rfl rfl ?_
      refine V_get C (v := .ref (a0 1)) (by decide +kernel) 0 0 fk_RX0_11 rfl rfl ?_
      refine V_pb C hn [(.iload_n 3, 1)] (pc' := 31) (ls' := [(0, .ref (a0 0)), (1, .ref (a1 0)), (2, .int p2), (3, .int v3)]) (st' := [.int v3, .ref (a0 1)]) (decB_ok (by decide +kernel)) rfl rfl ?_
      refine V_aald3 C (b := a0 (2 + 4 * ix v3)) (by decide +kernel) 1 2 rfl rfl h rfl (fun hf9 h => ?_)
      refine V_pb C hn [(.aload_n 1, 1)] (pc' := 33) (ls' := [(0, .ref (a0 0)), (1, .ref (a1 0)), (2, .int p2), (3, .int v3)]) (st' := [.ref (a1 0), .ref (a0 (2 + 4 * ix v3))]) (decB_ok (by decide +kernel)) rfl rfl ?_
      obtain ⟨q10, h11, h⟩ := bnd h
      obtain ⟨w12, e13, h⟩ := bnd h
      refine V_callV (ws' := wdD E.G a0 w12 ++ wdH E.G a1 S1) C (As := [.ref (a1 0)]) (rest := []) (by decide +kernel) ok_yX1_takeOver mk_RX0_28 (cfX1_takeOver (l := E.l) (G := E.G) (fun j => a0 (2 + 4 * ix v3 + j)) a1 h11) [(2 + 4 * ix v3), (2 + 4 * ix v3 + 1), (2 + 4 * ix v3 + 2), (2 + 4 * ix v3 + 3), 18, 19, 20, 21] (q0 := 0) rfl (fcm_Hall_Hall__deep_w__Draughts_Hall (inb_lt hf9)) (fnm_Hall_Hall__deep_w__Draughts_Hall hf9) rfl (by cases e13; exact (fsm_Hall_Hall__deep_w__Draughts_Hall hf9 _)) rfl rfl rfl rfl (Nat.le_of_ble_eq_true rfl) (Nat.le_of_ble_eq_true rfl) (Nat.le_of_ble_eq_true rfl) ?_
      show V E _ (wdD E.G a0 w12 ++ wdH E.G a1 S1) 36 [(0, .ref (a0 0)), (1, .ref (a1 0)), (2, .int p2), (3, .int v3)] []
      refine V_pb C hn [(.iinc 3 1, 3)] (pc' := 39) (ls' := [(0, .ref (a0 0)), (1, .ref (a1 0)), (2, .int p2), (3, .int (v3 + (1 : Int32)))]) (st' := []) (decB_ok (by decide +kernel)) rfl rfl ?_
      refine V_goto C (off := -22) (tgt := 17) (by decide +kernel) (by decide) ?_
      refine V_sub (ls' := [(0, .ref (a0 0)), (1, .ref (a1 0)), (2, .int p2), (3, .int (v3 + (1 : Int32)))]) rfl ?_
      exact ih _ _ h
set_option maxRecDepth 100000 in
set_option maxHeartbeats 4000000 in
theorem cfX0_reckon {l : Launch} {G : GG} (a0 : Nat → Nat) (a1 : Nat → Nat) {p2 : Int32} {S0 : DrT} {S1 : HallT} {out : DrT} (h : fX0_reckon p2 S0 S1 = some out) : Con l G 15 yX0_reckon cX0_reckon 4 none [.ref (a0 0), .ref (a1 0), .int p2] (wdD G a0 S0 ++ wdH G a1 S1) none (wdD G a0 out ++ wdH G a1 S1) := by
  refine Con_of (by decide +kernel) (Nat.le_of_ble_eq_true rfl) (fun E hl hG hn C => ?_)
  subst hl
  subst hG
  have C : Ctx E cX0_reckon RX0 15 none := C
  show V E _ _ 0 [(0, .ref (a0 0)), (1, .ref (a1 0)), (2, .int p2)] []
  unfold fX0_reckon at h
  refine V_pb C hn [(.aload_n 0, 1), (.lconst 0, 1)] (pc' := 2) (ls' := [(0, .ref (a0 0)), (1, .ref (a1 0)), (2, .int p2)]) (st' := [.long (0 : Int64), .ref (a0 0)]) (decB_ok (by decide +kernel)) rfl rfl ?_
  obtain ⟨w1, e2, h⟩ := bnd h
  refine V_put C (v := .long (0 : Int64)) (ws' := wdD E.G a0 w1 ++ wdH E.G a1 S1) (by decide +kernel) 0 1 pk_RX0_18 rfl rfl rfl (Nat.le_of_ble_eq_true rfl) (by cases e2; rfl) ?_
  refine V_pb C hn [(.aload_n 0, 1), (.lconst 0, 1)] (pc' := 7) (ls' := [(0, .ref (a0 0)), (1, .ref (a1 0)), (2, .int p2)]) (st' := [.long (0 : Int64), .ref (a0 0)]) (decB_ok (by decide +kernel)) rfl rfl ?_
  obtain ⟨w3, e4, h⟩ := bnd h
  refine V_put C (v := .long (0 : Int64)) (ws' := wdD E.G a0 w3 ++ wdH E.G a1 S1) (by decide +kernel) 0 2 pk_RX0_22 rfl rfl rfl (Nat.le_of_ble_eq_true rfl) (by cases e4; rfl) ?_
  refine V_pb C hn [(.aload_n 0, 1), (.lconst 0, 1)] (pc' := 12) (ls' := [(0, .ref (a0 0)), (1, .ref (a1 0)), (2, .int p2)]) (st' := [.long (0 : Int64), .ref (a0 0)]) (decB_ok (by decide +kernel)) rfl rfl ?_
  obtain ⟨w5, e6, h⟩ := bnd h
  refine V_put C (v := .long (0 : Int64)) (ws' := wdD E.G a0 w5 ++ wdH E.G a1 S1) (by decide +kernel) 0 3 pk_RX0_25 rfl rfl rfl (Nat.le_of_ble_eq_true rfl) (by cases e6; rfl) ?_
  refine V_pb C hn [(.iconst 0, 1), (.istore_n 3, 1)] (pc' := 17) (ls' := [(0, .ref (a0 0)), (1, .ref (a1 0)), (2, .int p2), (3, .int (0 : Int32))]) (st' := []) (decB_ok (by decide +kernel)) rfl rfl ?_
  refine V_sub (ls' := [(0, .ref (a0 0)), (1, .ref (a1 0)), (2, .int p2), (3, .int (0 : Int32))]) rfl ?_
  exact cfX0_reckon_L17 C hn FU _ _ h
set_option maxRecDepth 100000 in
set_option maxHeartbeats 400000 in
theorem cfX0_carriedOfMillion {l : Launch} {G : GG} (a0 : Nat → Nat) {S0 : DrT} {out : Int32} (h : fX0_carriedOfMillion S0 = some out) : Con l G 0 yX0_carriedOfMillion cX0_carriedOfMillion 1 (some .int) [.ref (a0 0)] (wdD G a0 S0) (some (.int out)) (wdD G a0 S0) := by
  refine Con_of (by decide +kernel) (Nat.le_of_ble_eq_true rfl) (fun E hl hG hn C => ?_)
  subst hl
  subst hG
  have C : Ctx E cX0_carriedOfMillion RX0 0 (some .int) := C
  show V E _ _ 0 [(0, .ref (a0 0))] []
  unfold fX0_carriedOfMillion at h
  refine V_pb C hn [(.aload_n 0, 1)] (pc' := 1) (ls' := [(0, .ref (a0 0))]) (st' := [.ref (a0 0)]) (decB_ok (by decide +kernel)) rfl rfl ?_
  refine V_get C (v := .long (dw_all (d_w S0))) (by decide +kernel) 0 1 fk_RX0_18 rfl rfl ?_
  refine V_pb C hn [(.lconst 0, 1), (.lcmp, 1)] (pc' := 6) (ls' := [(0, .ref (a0 0))]) (st' := [.int (lg_cmp (dw_all (d_w S0)) (0 : Int64))]) (decB_ok (by decide +kernel)) rfl rfl ?_
  refine V_if_le C (off := 20) (tgt := 26) (by decide +kernel) (by decide) h (fun _ h => ?_) (fun _ h => ?_)
  · refine V_pb C hn [(.iconst 0, 1)] (pc' := 27) (ls' := [(0, .ref (a0 0))]) (st' := [.int (0 : Int32)]) (decB_ok (by decide +kernel)) rfl rfl ?_
    have h := Option.some.inj h
    subst h
    exact V_iret C (by decide +kernel) rfl
  · refine V_ldc2 C (by decide +kernel) kk_RX0_65 ?_
    refine V_pb C hn [(.aload_n 0, 1)] (pc' := 13) (ls' := [(0, .ref (a0 0))]) (st' := [.ref (a0 0), .long (1000000 : Int64)]) (decB_ok (by decide +kernel)) rfl rfl ?_
    refine V_get C (v := .long (dw_carried (d_w S0))) (by decide +kernel) 0 2 fk_RX0_22 rfl rfl ?_
    refine V_pb C hn [(.lmul, 1), (.aload_n 0, 1)] (pc' := 18) (ls' := [(0, .ref (a0 0))]) (st' := [.ref (a0 0), .long ((1000000 : Int64) * (dw_carried (d_w S0)))]) (decB_ok (by decide +kernel)) rfl rfl ?_
    refine V_get C (v := .long (dw_all (d_w S0))) (by decide +kernel) 0 1 fk_RX0_18 rfl rfl ?_
    obtain ⟨hd1, h⟩ := dv_some h
    refine V_ldiv C (by decide +kernel) hd1 ?_
    refine V_pb C hn [(.l2i, 1)] (pc' := 23) (ls' := [(0, .ref (a0 0))]) (st' := [.int (((1000000 : Int64) * (dw_carried (d_w S0))) / (dw_all (d_w S0))).toInt32]) (decB_ok (by decide +kernel)) rfl rfl ?_
    refine V_goto C (off := 4) (tgt := 27) (by decide +kernel) (by decide) ?_
    have h := Option.some.inj h
    subst h
    exact V_iret C (by decide +kernel) rfl
set_option maxRecDepth 100000 in
set_option maxHeartbeats 400000 in
theorem cfX0_thousandfoldMean {l : Launch} {G : GG} (a0 : Nat → Nat) {S0 : DrT} {out : Int32} (h : fX0_thousandfoldMean S0 = some out) : Con l G 0 yX0_thousandfoldMean cX0_thousandfoldMean 1 (some .int) [.ref (a0 0)] (wdD G a0 S0) (some (.int out)) (wdD G a0 S0) := by
  refine Con_of (by decide +kernel) (Nat.le_of_ble_eq_true rfl) (fun E hl hG hn C => ?_)
  subst hl
  subst hG
  have C : Ctx E cX0_thousandfoldMean RX0 0 (some .int) := C
  show V E _ _ 0 [(0, .ref (a0 0))] []
  unfold fX0_thousandfoldMean at h
  refine V_pb C hn [(.aload_n 0, 1)] (pc' := 1) (ls' := [(0, .ref (a0 0))]) (st' := [.ref (a0 0)]) (decB_ok (by decide +kernel)) rfl rfl ?_
  refine V_get C (v := .long (dw_all (d_w S0))) (by decide +kernel) 0 1 fk_RX0_18 rfl rfl ?_
  refine V_pb C hn [(.lconst 0, 1), (.lcmp, 1)] (pc' := 6) (ls' := [(0, .ref (a0 0))]) (st' := [.int (lg_cmp (dw_all (d_w S0)) (0 : Int64))]) (decB_ok (by decide +kernel)) rfl rfl ?_
  refine V_if_le C (off := 20) (tgt := 26) (by decide +kernel) (by decide) h (fun _ h => ?_) (fun _ h => ?_)
  · refine V_pb C hn [(.iconst 0, 1)] (pc' := 27) (ls' := [(0, .ref (a0 0))]) (st' := [.int (0 : Int32)]) (decB_ok (by decide +kernel)) rfl rfl ?_
    have h := Option.some.inj h
    subst h
    exact V_iret C (by decide +kernel) rfl
  · refine V_ldc2 C (by decide +kernel) kk_RX0_67 ?_
    refine V_pb C hn [(.aload_n 0, 1)] (pc' := 13) (ls' := [(0, .ref (a0 0))]) (st' := [.ref (a0 0), .long (1000 : Int64)]) (decB_ok (by decide +kernel)) rfl rfl ?_
    refine V_get C (v := .long (dw_voted (d_w S0))) (by decide +kernel) 0 3 fk_RX0_25 rfl rfl ?_
    refine V_pb C hn [(.lmul, 1), (.aload_n 0, 1)] (pc' := 18) (ls' := [(0, .ref (a0 0))]) (st' := [.ref (a0 0), .long ((1000 : Int64) * (dw_voted (d_w S0)))]) (decB_ok (by decide +kernel)) rfl rfl ?_
    refine V_get C (v := .long (dw_all (d_w S0))) (by decide +kernel) 0 1 fk_RX0_18 rfl rfl ?_
    obtain ⟨hd1, h⟩ := dv_some h
    refine V_ldiv C (by decide +kernel) hd1 ?_
    refine V_pb C hn [(.l2i, 1)] (pc' := 23) (ls' := [(0, .ref (a0 0))]) (st' := [.int (((1000 : Int64) * (dw_voted (d_w S0))) / (dw_all (d_w S0))).toInt32]) (decB_ok (by decide +kernel)) rfl rfl ?_
    refine V_goto C (off := 4) (tgt := 27) (by decide +kernel) (by decide) ?_
    have h := Option.some.inj h
    subst h
    exact V_iret C (by decide +kernel) rfl
