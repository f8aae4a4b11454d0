set_option maxRecDepth 100000 in
set_option maxHeartbeats 400000 in
theorem cfX2_takeRow {l : Launch} {G : GG} (a0 : Nat → Nat) {p1 : Int32} {p2 : Int32} {S0 : ShT} {out : ShT} (h : fX2_takeRow p1 p2 S0 = some out) : Con l G 1 yX2_takeRow cX2_takeRow 3 none [.ref (a0 0), .int p1, .int p2] (wdS G a0 S0) none (wdS G a0 out) := by
  refine Con_of (by decide +kernel) (Nat.le_of_ble_eq_true rfl) (fun E hl hG hn C => ?_)
  subst hl
  subst hG
  have C : Ctx E cX2_takeRow RX2 1 none := C
  show V E _ _ 0 [(0, .ref (a0 0)), (1, .int p1), (2, .int p2)] []
  unfold fX2_takeRow at h
  refine V_pb C hn [(.aload_n 0, 1), (.iconst 1, 1)] (pc' := 2) (ls' := [(0, .ref (a0 0)), (1, .int p1), (2, .int p2)]) (st' := [.int (1 : Int32), .ref (a0 0)]) (decB_ok (by decide +kernel)) rfl rfl ?_
  obtain ⟨w1, e2, h⟩ := bnd h
  refine V_put C (v := .int (1 : Int32)) (ws' := wdS E.G a0 w1) (by decide +kernel) 0 0 pk_RX2_11 rfl rfl rfl (Nat.le_of_ble_eq_true rfl) (by cases e2; rfl) ?_
  refine V_pb C hn [(.aload_n 0, 1), (.iload_n 1, 1)] (pc' := 7) (ls' := [(0, .ref (a0 0)), (1, .int p1), (2, .int p2)]) (st' := [.int p1, .ref (a0 0)]) (decB_ok (by decide +kernel)) rfl rfl ?_
  obtain ⟨w3, e4, h⟩ := bnd h
  refine V_put C (v := .int p1) (ws' := wdS E.G a0 w3) (by decide +kernel) 0 1 pk_RX2_19 rfl rfl rfl (Nat.le_of_ble_eq_true rfl) (by cases e4; rfl) ?_
  refine V_pb C hn [(.aload_n 0, 1), (.iload_n 2, 1)] (pc' := 12) (ls' := [(0, .ref (a0 0)), (1, .int p1), (2, .int p2)]) (st' := [.int p2, .ref (a0 0)]) (decB_ok (by decide +kernel)) rfl rfl ?_
  obtain ⟨w5, e6, h⟩ := bnd h
  refine V_put C (v := .int p2) (ws' := wdS E.G a0 w5) (by decide +kernel) 0 2 pk_RX2_22 rfl rfl rfl (Nat.le_of_ble_eq_true rfl) (by cases e6; rfl) ?_
  refine V_pb C hn [(.aload_n 0, 1)] (pc' := 16) (ls' := [(0, .ref (a0 0)), (1, .int p1), (2, .int p2)]) (st' := [.ref (a0 0)]) (decB_ok (by decide +kernel)) rfl rfl ?_
  refine V_get C (v := .ref (a0 1)) (by decide +kernel) 0 4 fk_RX2_15 rfl rfl ?_
  refine V_pb C hn [(.lconst 0, 1)] (pc' := 20) (ls' := [(0, .ref (a0 0)), (1, .int p1), (2, .int p2)]) (st' := [.long (0 : Int64), .ref (a0 1)]) (decB_ok (by decide +kernel)) rfl rfl ?_
  obtain ⟨q7, h8, h⟩ := bnd h
  refine V_callS (ws' := wdS E.G a0 (shs_elements w5 q7)) C (As := [.ref (a0 1), .long (0 : Int64)]) (rest := []) (by decide +kernel) ok_yJ7_fill_d0a16 mk_RX2_25 (cfJ7_fill_d0a16 (l := E.l) (G := E.G) (fun j => a0 (1 + j)) h8) [1] rfl rfl rfl rfl rfl rfl (Nat.le_of_ble_eq_true rfl) (Nat.le_of_ble_eq_true rfl) (Nat.le_of_ble_eq_true rfl) ?_
  show V E _ (wdS E.G a0 (shs_elements w5 q7)) 23 [(0, .ref (a0 0)), (1, .int p1), (2, .int p2)] []
  have h := Option.some.inj h
  subst h
  exact V_vret C (by decide +kernel)
set_option maxRecDepth 100000 in
set_option maxHeartbeats 400000 in
theorem cfX2_hasPlace {l : Launch} {G : GG} (a0 : Nat → Nat) {p1 : Int32} {S0 : ShT} {out : Int32} (h : fX2_hasPlace p1 S0 = some out) : Con l G 0 yX2_hasPlace cX2_hasPlace 2 (some .boolean) [.ref (a0 0), .int p1] (wdS G a0 S0) (some (.int out)) (wdS G a0 S0) := by
  refine Con_of (by decide +kernel) (Nat.le_of_ble_eq_true rfl) (fun E hl hG hn C => ?_)
  subst hl
  subst hG
  have C : Ctx E cX2_hasPlace RX2 0 (some .boolean) := C
  show V E _ _ 0 [(0, .ref (a0 0)), (1, .int p1)] []
  unfold fX2_hasPlace at h
  refine V_pb C hn [(.iload_n 1, 1)] (pc' := 1) (ls' := [(0, .ref (a0 0)), (1, .int p1)]) (st' := [.int p1]) (decB_ok (by decide +kernel)) rfl rfl ?_
  refine V_if_lt C (off := 24) (tgt := 25) (by decide +kernel) (by decide) h (fun _ h => ?_) (fun _ h => ?_)
  · refine V_pb C hn [(.iconst 0, 1)] (pc' := 26) (ls' := [(0, .ref (a0 0)), (1, .int p1)]) (st' := [.int (0 : Int32)]) (decB_ok (by decide +kernel)) rfl rfl ?_
    have h := Option.some.inj h
    subst h
    exact V_iret C (v := (0 : Int32)) (by decide +kernel) nb0
  · refine V_pb C hn [(.iload_n 1, 1), (.aload_n 0, 1)] (pc' := 6) (ls' := [(0, .ref (a0 0)), (1, .int p1)]) (st' := [.ref (a0 0), .int p1]) (decB_ok (by decide +kernel)) rfl rfl ?_
    refine V_get C (v := .int (sh_size S0)) (by decide +kernel) 0 2 fk_RX2_22 rfl rfl ?_
    refine V_ic_ge C (off := 16) (tgt := 25) (by decide +kernel) (by decide) h (fun _ h => ?_) (fun _ h => ?_)
    · refine V_pb C hn [(.iconst 0, 1)] (pc' := 26) (ls' := [(0, .ref (a0 0)), (1, .int p1)]) (st' := [.int (0 : Int32)]) (decB_ok (by decide +kernel)) rfl rfl ?_
      have h := Option.some.inj h
      subst h
      exact V_iret C (v := (0 : Int32)) (by decide +kernel) nb0
    · refine V_pb C hn [(.iload_n 1, 1), (.aload_n 0, 1)] (pc' := 14) (ls' := [(0, .ref (a0 0)), (1, .int p1)]) (st' := [.ref (a0 0), .int p1]) (decB_ok (by decide +kernel)) rfl rfl ?_
      refine V_get C (v := .ref (a0 1)) (by decide +kernel) 0 4 fk_RX2_15 rfl rfl ?_
      refine V_alen C (v := (40 : Int32)) (by decide +kernel) 1 1 rfl rfl rfl ?_
      refine V_ic_ge C (off := 7) (tgt := 25) (by decide +kernel) (by decide) h (fun _ h => ?_) (fun _ h => ?_)
      · refine V_pb C hn [(.iconst 0, 1)] (pc' := 26) (ls' := [(0, .ref (a0 0)), (1, .int p1)]) (st' := [.int (0 : Int32)]) (decB_ok (by decide +kernel)) rfl rfl ?_
        have h := Option.some.inj h
        subst h
        exact V_iret C (v := (0 : Int32)) (by decide +kernel) nb0
      · refine V_pb C hn [(.iconst 1, 1)] (pc' := 22) (ls' := [(0, .ref (a0 0)), (1, .int p1)]) (st' := [.int (1 : Int32)]) (decB_ok (by decide +kernel)) rfl rfl ?_
        refine V_goto C (off := 4) (tgt := 26) (by decide +kernel) (by decide) ?_
        have h := Option.some.inj h
        subst h
        exact V_iret C (v := (1 : Int32)) (by decide +kernel) nb1
set_option maxRecDepth 100000 in
set_option maxHeartbeats 400000 in
theorem cfX2_hasPlaces {l : Launch} {G : GG} (a0 : Nat → Nat) {p1 : Int32} {p2 : Int32} {S0 : ShT} {out : Int32} (h : fX2_hasPlaces p1 p2 S0 = some out) : Con l G 0 yX2_hasPlaces cX2_hasPlaces 3 (some .boolean) [.ref (a0 0), .int p1, .int p2] (wdS G a0 S0) (some (.int out)) (wdS G a0 S0) := by
  refine Con_of (by decide +kernel) (Nat.le_of_ble_eq_true rfl) (fun E hl hG hn C => ?_)
  subst hl
  subst hG
  have C : Ctx E cX2_hasPlaces RX2 0 (some .boolean) := C
  show V E _ _ 0 [(0, .ref (a0 0)), (1, .int p1), (2, .int p2)] []
  unfold fX2_hasPlaces at h
  refine V_pb C hn [(.iload_n 1, 1)] (pc' := 1) (ls' := [(0, .ref (a0 0)), (1, .int p1), (2, .int p2)]) (st' := [.int p1]) (decB_ok (by decide +kernel)) rfl rfl ?_
  refine V_if_lt C (off := 29) (tgt := 30) (by decide +kernel) (by decide) h (fun _ h => ?_) (fun _ h => ?_)
  · refine V_pb C hn [(.iconst 0, 1)] (pc' := 31) (ls' := [(0, .ref (a0 0)), (1, .int p1), (2, .int p2)]) (st' := [.int (0 : Int32)]) (decB_ok (by decide +kernel)) rfl rfl ?_
    have h := Option.some.inj h
    subst h
    exact V_iret C (v := (0 : Int32)) (by decide +kernel) nb0
  · refine V_pb C hn [(.iload_n 2, 1)] (pc' := 5) (ls' := [(0, .ref (a0 0)), (1, .int p1), (2, .int p2)]) (st' := [.int p2]) (decB_ok (by decide +kernel)) rfl rfl ?_
    refine V_if_lt C (off := 25) (tgt := 30) (by decide +kernel) (by decide) h (fun _ h => ?_) (fun _ h => ?_)
    · refine V_pb C hn [(.iconst 0, 1)] (pc' := 31) (ls' := [(0, .ref (a0 0)), (1, .int p1), (2, .int p2)]) (st' := [.int (0 : Int32)]) (decB_ok (by decide +kernel)) rfl rfl ?_
      have h := Option.some.inj h
      subst h
      exact V_iret C (v := (0 : Int32)) (by decide +kernel) nb0
    · refine V_pb C hn [(.iload_n 2, 1), (.aload_n 0, 1)] (pc' := 10) (ls' := [(0, .ref (a0 0)), (1, .int p1), (2, .int p2)]) (st' := [.ref (a0 0), .int p2]) (decB_ok (by decide +kernel)) rfl rfl ?_
      refine V_get C (v := .int (sh_size S0)) (by decide +kernel) 0 2 fk_RX2_22 rfl rfl ?_
      refine V_ic_gt C (off := 17) (tgt := 30) (by decide +kernel) (by decide) h (fun _ h => ?_) (fun _ h => ?_)
      · refine V_pb C hn [(.iconst 0, 1)] (pc' := 31) (ls' := [(0, .ref (a0 0)), (1, .int p1), (2, .int p2)]) (st' := [.int (0 : Int32)]) (decB_ok (by decide +kernel)) rfl rfl ?_
        have h := Option.some.inj h
        subst h
        exact V_iret C (v := (0 : Int32)) (by decide +kernel) nb0
      · refine V_pb C hn [(.iload_n 1, 1), (.aload_n 0, 1)] (pc' := 18) (ls' := [(0, .ref (a0 0)), (1, .int p1), (2, .int p2)]) (st' := [.ref (a0 0), .int p1]) (decB_ok (by decide +kernel)) rfl rfl ?_
        refine V_get C (v := .int (sh_size S0)) (by decide +kernel) 0 2 fk_RX2_22 rfl rfl ?_
        refine V_pb C hn [(.iload_n 2, 1), (.isub, 1)] (pc' := 23) (ls' := [(0, .ref (a0 0)), (1, .int p1), (2, .int p2)]) (st' := [.int ((sh_size S0) - p2), .int p1]) (decB_ok (by decide +kernel)) rfl rfl ?_
        refine V_ic_gt C (off := 7) (tgt := 30) (by decide +kernel) (by decide) h (fun _ h => ?_) (fun _ h => ?_)
        · refine V_pb C hn [(.iconst 0, 1)] (pc' := 31) (ls' := [(0, .ref (a0 0)), (1, .int p1), (2, .int p2)]) (st' := [.int (0 : Int32)]) (decB_ok (by decide +kernel)) rfl rfl ?_
          have h := Option.some.inj h
          subst h
          exact V_iret C (v := (0 : Int32)) (by decide +kernel) nb0
        · refine V_pb C hn [(.iconst 1, 1)] (pc' := 27) (ls' := [(0, .ref (a0 0)), (1, .int p1), (2, .int p2)]) (st' := [.int (1 : Int32)]) (decB_ok (by decide +kernel)) rfl rfl ?_
          refine V_goto C (off := 4) (tgt := 31) (by decide +kernel) (by decide) ?_
          have h := Option.some.inj h
          subst h
          exact V_iret C (v := (1 : Int32)) (by decide +kernel) nb1
set_option maxRecDepth 100000 in
set_option maxHeartbeats 400000 in
theorem cfX2_clear {l : Launch} {G : GG} (a0 : Nat → Nat) {S0 : ShT} {out : ShT} (h : fX2_clear S0 = some out) : Con l G 0 yX2_clear cX2_clear 1 none [.ref (a0 0)] (wdS G a0 S0) none (wdS G a0 out) := by
  refine Con_of (by decide +kernel) (Nat.le_of_ble_eq_true rfl) (fun E hl hG hn C => ?_)
  subst hl
  subst hG
  have C : Ctx E cX2_clear RX2 0 none := C
  show V E _ _ 0 [(0, .ref (a0 0))] []
  unfold fX2_clear at h
  refine V_pb C hn [(.aload_n 0, 1), (.iconst 0, 1)] (pc' := 2) (ls' := [(0, .ref (a0 0))]) (st' := [.int (0 : Int32), .ref (a0 0)]) (decB_ok (by decide +kernel)) rfl rfl ?_
  refine V_put C (v := .int (0 : Int32)) (ws' := wdS E.G a0 (shs_held S0 (0 : Int32))) (by decide +kernel) 0 0 pk_RX2_11 rfl rfl rfl (Nat.le_of_ble_eq_true rfl) rfl ?_
  have h := Option.some.inj h
  subst h
  exact V_vret C (by decide +kernel)
set_option maxRecDepth 100000 in
set_option maxHeartbeats 400000 in
theorem cfX2_takeMote {l : Launch} {G : GG} (a0 : Nat → Nat) {p1 : Int32} {S0 : ShT} {out : ShT} (h : fX2_takeMote p1 S0 = some out) : Con l G 0 yX2_takeMote cX2_takeMote 2 none [.ref (a0 0), .int p1] (wdS G a0 S0) none (wdS G a0 out) := by
  refine Con_of (by decide +kernel) (Nat.le_of_ble_eq_true rfl) (fun E hl hG hn C => ?_)
  subst hl
  subst hG
  have C : Ctx E cX2_takeMote RX2 0 none := C
  show V E _ _ 0 [(0, .ref (a0 0)), (1, .int p1)] []
  unfold fX2_takeMote at h
  refine V_pb C hn [(.aload_n 0, 1), (.iconst 2, 1)] (pc' := 2) (ls' := [(0, .ref (a0 0)), (1, .int p1)]) (st' := [.int (2 : Int32), .ref (a0 0)]) (decB_ok (by decide +kernel)) rfl rfl ?_
  obtain ⟨w1, e2, h⟩ := bnd h
  refine V_put C (v := .int (2 : Int32)) (ws' := wdS E.G a0 w1) (by decide +kernel) 0 0 pk_RX2_11 rfl rfl rfl (Nat.le_of_ble_eq_true rfl) (by cases e2; rfl) ?_
  refine V_pb C hn [(.aload_n 0, 1), (.iload_n 1, 1)] (pc' := 7) (ls' := [(0, .ref (a0 0)), (1, .int p1)]) (st' := [.int p1, .ref (a0 0)]) (decB_ok (by decide +kernel)) rfl rfl ?_
  obtain ⟨w3, e4, h⟩ := bnd h
  refine V_put C (v := .int p1) (ws' := wdS E.G a0 w3) (by decide +kernel) 0 3 pk_RX2_31 rfl rfl rfl (Nat.le_of_ble_eq_true rfl) (by cases e4; rfl) ?_
  have h := Option.some.inj h
  subst h
  exact V_vret C (by decide +kernel)
set_option maxRecDepth 100000 in
set_option maxHeartbeats 400000 in
theorem cfX3_add {l : Launch} {G : GG} (a0 : Nat → Nat) {p1 : Int32} {S0 : TapeT} {out : TapeT} (h : fX3_add p1 S0 = some out) : Con l G 0 yX3_add cX3_add 2 none [.ref (a0 0), .int p1] (wdT G a0 S0) none (wdT G a0 out) := by
  refine Con_of (by decide +kernel) (Nat.le_of_ble_eq_true rfl) (fun E hl hG hn C => ?_)
  subst hl
  subst hG
  have C : Ctx E cX3_add RX3 0 none := C
  show V E _ _ 0 [(0, .ref (a0 0)), (1, .int p1)] []
  unfold fX3_add at h
  refine V_pb C hn [(.aload_n 0, 1)] (pc' := 1) (ls' := [(0, .ref (a0 0)), (1, .int p1)]) (st' := [.ref (a0 0)]) (decB_ok (by decide +kernel)) rfl rfl ?_
  refine V_get C (v := .int (t_size S0)) (by decide +kernel) 0 1 fk_RX3_15 rfl rfl ?_
  refine V_pb C hn [(.aload_n 0, 1)] (pc' := 5) (ls' := [(0, .ref (a0 0)), (1, .int p1)]) (st' := [.ref (a0 0), .int (t_size S0)]) (decB_ok (by decide +kernel)) rfl rfl ?_
  refine V_get C (v := .ref (a0 1)) (by decide +kernel) 0 0 fk_RX3_9 rfl rfl ?_
  refine V_alen C (v := (250 : Int32)) (by decide +kernel) 1 0 rfl rfl rfl ?_
  refine V_ic_ge C (off := 23) (tgt := 32) (by decide +kernel) (by decide) h (fun _ h => ?_) (fun _ h => ?_)
  · have h := Option.some.inj h
    subst h
    exact V_vret C (by decide +kernel)
  · refine V_pb C hn [(.aload_n 0, 1)] (pc' := 13) (ls' := [(0, .ref (a0 0)), (1, .int p1)]) (st' := [.ref (a0 0)]) (decB_ok (by decide +kernel)) rfl rfl ?_
    refine V_get C (v := .ref (a0 1)) (by decide +kernel) 0 0 fk_RX3_9 rfl rfl ?_
    refine V_pb C hn [(.aload_n 0, 1)] (pc' := 17) (ls' := [(0, .ref (a0 0)), (1, .int p1)]) (st' := [.ref (a0 0), .ref (a0 1)]) (decB_ok (by decide +kernel)) rfl rfl ?_
    refine V_get C (v := .int (t_size S0)) (by decide +kernel) 0 1 fk_RX3_15 rfl rfl ?_
    refine V_pb C hn [(.iload_n 1, 1)] (pc' := 21) (ls' := [(0, .ref (a0 0)), (1, .int p1)]) (st' := [.int p1, .int (t_size S0), .ref (a0 1)]) (decB_ok (by decide +kernel)) rfl rfl ?_
    obtain ⟨hb9, h⟩ := gd_some h
    obtain ⟨w1, e2, h⟩ := bnd h
    refine V_iast C (f := (t_bytes S0)) (ws' := wdT E.G a0 w1) (by decide +kernel) 1 rfl (o := some ()) (out := ()) (by rw [hb9]; rfl) (by cases e2; rfl) (fun _ => ?_)
    refine V_pb C hn [(.aload_n 0, 1), (.dup, 1)] (pc' := 24) (ls' := [(0, .ref (a0 0)), (1, .int p1)]) (st' := [.ref (a0 0), .ref (a0 0)]) (decB_ok (by decide +kernel)) rfl rfl ?_
    refine V_get C (v := .int (t_size w1)) (by decide +kernel) 0 1 fk_RX3_15 rfl rfl ?_
    refine V_pb C hn [(.iconst 1, 1), (.iadd, 1)] (pc' := 29) (ls' := [(0, .ref (a0 0)), (1, .int p1)]) (st' := [.int ((t_size w1) + (1 : Int32)), .ref (a0 0)]) (decB_ok (by decide +kernel)) rfl rfl ?_
    obtain ⟨x3, e4, h⟩ := bnd h
    refine V_topi e4 ?_
    obtain ⟨w5, e6, h⟩ := bnd h
    refine V_put C (v := .int x3) (ws' := wdT E.G a0 w5) (by decide +kernel) 0 1 pk_RX3_15 rfl rfl rfl (Nat.le_of_ble_eq_true rfl) (by cases e6; rfl) ?_
    have h := Option.some.inj h
    subst h
    exact V_vret C (by decide +kernel)
set_option maxRecDepth 100000 in
set_option maxHeartbeats 400000 in
theorem cfX3_sortOf_j28 {E : VE} (C : Ctx E cX3_sortOf RX3 0 (some .int)) (hn : E.nL = 1) {p0 : Int32} {out : Int32} (h : fX3_sortOf_j28 p0 = some out) : V E (QR E (some (.int out)) (([] : va_W))) (([] : va_W)) 28 [(0, .int p0)] [] := by
  unfold fX3_sortOf_j28 at h
  refine V_pb C hn [(.iload_n 0, 1), (.bipush 59, 2)] (pc' := 31) (ls' := [(0, .int p0)]) (st' := [.int (59 : Int32), .int p0]) (decB_ok (by decide +kernel)) rfl rfl ?_
  refine V_ic_ne C (off := 7) (tgt := 38) (by decide +kernel) (by decide) h (fun _ h => ?_) (fun _ h => ?_)
  · refine V_pb C hn [(.iconst 3, 1)] (pc' := 35) (ls' := [(0, .int p0)]) (st' := [.int (3 : Int32)]) (decB_ok (by decide +kernel)) rfl rfl ?_
    refine V_goto C (off := 4) (tgt := 39) (by decide +kernel) (by decide) ?_
    have h := Option.some.inj h
    subst h
    exact V_iret C (by decide +kernel) rfl
  · refine V_pb C hn [(.iconst 4, 1)] (pc' := 39) (ls' := [(0, .int p0)]) (st' := [.int (4 : Int32)]) (decB_ok (by decide +kernel)) rfl rfl ?_
    have h := Option.some.inj h
    subst h
    exact V_iret C (by decide +kernel) rfl
set_option maxRecDepth 100000 in
set_option maxHeartbeats 400000 in
theorem cfX3_sortOf_j14 {E : VE} (C : Ctx E cX3_sortOf RX3 0 (some .int)) (hn : E.nL = 1) {p0 : Int32} {out : Int32} (h : fX3_sortOf_j14 p0 = some out) : V E (QR E (some (.int out)) (([] : va_W))) (([] : va_W)) 14 [(0, .int p0)] [] := by
  unfold fX3_sortOf_j14 at h
  refine V_pb C hn [(.iload_n 0, 1), (.bipush 48, 2)] (pc' := 17) (ls' := [(0, .int p0)]) (st' := [.int (48 : Int32), .int p0]) (decB_ok (by decide +kernel)) rfl rfl ?_
  refine V_ic_lt C (off := 11) (tgt := 28) (by decide +kernel) (by decide) h (fun _ h => ?_) (fun _ h => ?_)
  · refine V_sub (ls' := [(0, .int p0)]) rfl ?_
    exact cfX3_sortOf_j28 C hn h
  · refine V_pb C hn [(.iload_n 0, 1), (.bipush 57, 2)] (pc' := 23) (ls' := [(0, .int p0)]) (st' := [.int (57 : Int32), .int p0]) (decB_ok (by decide +kernel)) rfl rfl ?_
    refine V_ic_gt C (off := 5) (tgt := 28) (by decide +kernel) (by decide) h (fun _ h => ?_) (fun _ h => ?_)
    · refine V_sub (ls' := [(0, .int p0)]) rfl ?_
      exact cfX3_sortOf_j28 C hn h
    · refine V_pb C hn [(.iconst 2, 1)] (pc' := 27) (ls' := [(0, .int p0)]) (st' := [.int (2 : Int32)]) (decB_ok (by decide +kernel)) rfl rfl ?_
      have h := Option.some.inj h
      subst h
      exact V_iret C (by decide +kernel) rfl
set_option maxRecDepth 100000 in
set_option maxHeartbeats 400000 in
theorem cfX3_sortOf {l : Launch} {G : GG} {p0 : Int32} {out : Int32} (h : fX3_sortOf p0 = some out) : Con l G 0 yX3_sortOf cX3_sortOf 1 (some .int) [.int p0] (([] : va_W)) (some (.int out)) (([] : va_W)) := by
  refine Con_of (by decide +kernel) (Nat.le_of_ble_eq_true rfl) (fun E hl hG hn C => ?_)
  subst hl
  subst hG
  have C : Ctx E cX3_sortOf RX3 0 (some .int) := C
  show V E _ _ 0 [(0, .int p0)] []
  unfold fX3_sortOf at h
  refine V_pb C hn [(.iload_n 0, 1), (.bipush 97, 2)] (pc' := 3) (ls' := [(0, .int p0)]) (st' := [.int (97 : Int32), .int p0]) (decB_ok (by decide +kernel)) rfl rfl ?_
  refine V_ic_lt C (off := 11) (tgt := 14) (by decide +kernel) (by decide) h (fun _ h => ?_) (fun _ h => ?_)
  · refine V_sub (ls' := [(0, .int p0)]) rfl ?_
    exact cfX3_sortOf_j14 C hn h
  · refine V_pb C hn [(.iload_n 0, 1), (.bipush 122, 2)] (pc' := 9) (ls' := [(0, .int p0)]) (st' := [.int (122 : Int32), .int p0]) (decB_ok (by decide +kernel)) rfl rfl ?_
    refine V_ic_gt C (off := 5) (tgt := 14) (by decide +kernel) (by decide) h (fun _ h => ?_) (fun _ h => ?_)
    · refine V_sub (ls' := [(0, .int p0)]) rfl ?_
      exact cfX3_sortOf_j14 C hn h
    · refine V_pb C hn [(.iconst 1, 1)] (pc' := 13) (ls' := [(0, .int p0)]) (st' := [.int (1 : Int32)]) (decB_ok (by decide +kernel)) rfl rfl ?_
      have h := Option.some.inj h
      subst h
      exact V_iret C (by decide +kernel) rfl
set_option maxRecDepth 100000 in
set_option maxHeartbeats 400000 in
theorem cfX3_readToken_L111 {E : VE} (C : Ctx E cX3_readToken RX3 1 none) (hn : E.nL = 1) {a0 : Nat → Nat} {out : TapeT} : ∀ (n : Nat) (S0 : TapeT), fX3_readToken_L111 n S0 = some out → V E (QR E none (wdT E.G a0 out)) (wdT E.G a0 S0) 111 [(0, .ref (a0 0))] [] := by
  intro n
  induction n with
  | zero =>
    intro S0 h
    cases h
  | succ n ih =>
    intro S0 h
    unfold fX3_readToken_L111 at h
    refine V_pb C hn [(.aload_n 0, 1)] (pc' := 112) (ls' := [(0, .ref (a0 0))]) (st' := [.ref (a0 0)]) (decB_ok (by decide +kernel)) rfl rfl ?_
    refine V_get C (v := .int (t_at S0)) (by decide +kernel) 0 3 fk_RX3_19 rfl rfl ?_
    refine V_pb C hn [(.aload_n 0, 1)] (pc' := 116) (ls' := [(0, .ref (a0 0))]) (st' := [.ref (a0 0), .int (t_at S0)]) (decB_ok (by decide +kernel)) rfl rfl ?_
    refine V_get C (v := .int (t_size S0)) (by decide +kernel) 0 1 fk_RX3_15 rfl rfl ?_
    refine V_ic_ge C (off := 35) (tgt := 154) (by decide +kernel) (by decide) h (fun _ h => ?_) (fun _ h => ?_)
    · have h := Option.some.inj h
      subst h
      exact V_vret C (by decide +kernel)
    · refine V_pb C hn [(.aload_n 0, 1)] (pc' := 123) (ls' := [(0, .ref (a0 0))]) (st' := [.ref (a0 0)]) (decB_ok (by decide +kernel)) rfl rfl ?_
      refine V_get C (v := .ref (a0 1)) (by decide +kernel) 0 0 fk_RX3_9 rfl rfl ?_
      refine V_pb C hn [(.aload_n 0, 1)] (pc' := 127) (ls' := [(0, .ref (a0 0))]) (st' := [.ref (a0 0), .ref (a0 1)]) (decB_ok (by decide +kernel)) rfl rfl ?_
      refine V_get C (v := .int (t_at S0)) (by decide +kernel) 0 3 fk_RX3_19 rfl rfl ?_
      refine V_iald C (f := (t_bytes S0)) (by decide +kernel) 1 rfl h (fun h => ?_)
      obtain ⟨q9, h10, h⟩ := bnd h
      refine V_callSp C (As := [.int ((t_bytes S0) (ix (t_at S0)))]) (rest := []) (by decide +kernel) ok_yX3_sortOf mk_RX3_117 (cfX3_sortOf (l := E.l) (G := E.G) h10) [] rfl rfl rfl rfl (Nat.le_of_ble_eq_true rfl) (Nat.le_of_ble_eq_true rfl) (Nat.le_of_ble_eq_true rfl) ?_
      show V E _ (wdT E.G a0 S0) 134 [(0, .ref (a0 0))] [.int q9]
      refine V_pb C hn [(.aload_n 0, 1)] (pc' := 135) (ls' := [(0, .ref (a0 0))]) (st' := [.ref (a0 0), .int q9]) (decB_ok (by decide +kernel)) rfl rfl ?_
      refine V_get C (v := .int (t_token S0)) (by decide +kernel) 0 4 fk_RX3_25 rfl rfl ?_
      refine V_ic_ne C (off := 16) (tgt := 154) (by decide +kernel) (by decide) h (fun _ h => ?_) (fun _ h => ?_)
      · refine V_pb C hn [(.aload_n 0, 1), (.dup, 1)] (pc' := 143) (ls' := [(0, .ref (a0 0))]) (st' := [.ref (a0 0), .ref (a0 0)]) (decB_ok (by decide +kernel)) rfl rfl ?_
        refine V_get C (v := .int (t_at S0)) (by decide +kernel) 0 3 fk_RX3_19 rfl rfl ?_
        refine V_pb C hn [(.iconst 1, 1), (.iadd, 1)] (pc' := 148) (ls' := [(0, .ref (a0 0))]) (st' := [.int ((t_at S0) + (1 : Int32)), .ref (a0 0)]) (decB_ok (by decide +kernel)) rfl rfl ?_
        obtain ⟨x11, e12, h⟩ := bnd h
        refine V_topi e12 ?_
        obtain ⟨w13, e14, h⟩ := bnd h
        refine V_put C (v := .int x11) (ws' := wdT E.G a0 w13) (by decide +kernel) 0 3 pk_RX3_19 rfl rfl rfl (Nat.le_of_ble_eq_true rfl) (by cases e14; rfl) ?_
        refine V_goto C (off := -40) (tgt := 111) (by decide +kernel) (by decide) ?_
        refine V_sub (ls' := [(0, .ref (a0 0))]) rfl ?_
        exact ih _ h
      · have h := Option.some.inj h
        subst h
        exact V_vret C (by decide +kernel)
set_option maxRecDepth 100000 in
set_option maxHeartbeats 400000 in
theorem cfX3_readToken_j74 {E : VE} (C : Ctx E cX3_readToken RX3 1 none) (hn : E.nL = 1) {a0 : Nat → Nat} {s0 : Int32} {S0 : TapeT} {out : TapeT} (h : fX3_readToken_j74 s0 S0 = some out) : V E (QR E none (wdT E.G a0 out)) (wdT E.G a0 S0) 74 [(0, .ref (a0 0))] [.int s0, .ref (a0 0)] := by
  unfold fX3_readToken_j74 at h
  obtain ⟨w3, e4, h⟩ := bnd h
  refine V_put C (v := .int s0) (ws' := wdT E.G a0 w3) (by decide +kernel) 0 4 pk_RX3_25 rfl rfl rfl (Nat.le_of_ble_eq_true rfl) (by cases e4; rfl) ?_
  refine V_pb C hn [(.aload_n 0, 1)] (pc' := 78) (ls' := [(0, .ref (a0 0))]) (st' := [.ref (a0 0)]) (decB_ok (by decide +kernel)) rfl rfl ?_
  refine V_get C (v := .int (t_token w3)) (by decide +kernel) 0 4 fk_RX3_25 rfl rfl ?_
  refine V_if_ne C (off := 4) (tgt := 85) (by decide +kernel) (by decide) h (fun _ h => ?_) (fun _ h => ?_)
  · have h := Option.some.inj h
    subst h
    exact V_vret C (by decide +kernel)
  · refine V_pb C hn [(.aload_n 0, 1), (.dup, 1)] (pc' := 87) (ls' := [(0, .ref (a0 0))]) (st' := [.ref (a0 0), .ref (a0 0)]) (decB_ok (by decide +kernel)) rfl rfl ?_
    refine V_get C (v := .int (t_at w3)) (by decide +kernel) 0 3 fk_RX3_19 rfl rfl ?_
    refine V_pb C hn [(.iconst 1, 1), (.iadd, 1)] (pc' := 92) (ls' := [(0, .ref (a0 0))]) (st' := [.int ((t_at w3) + (1 : Int32)), .ref (a0 0)]) (decB_ok (by decide +kernel)) rfl rfl ?_
    obtain ⟨x5, e6, h⟩ := bnd h
    refine V_topi e6 ?_
    obtain ⟨w7, e8, h⟩ := bnd h
    refine V_put C (v := .int x5) (ws' := wdT E.G a0 w7) (by decide +kernel) 0 3 pk_RX3_19 rfl rfl rfl (Nat.le_of_ble_eq_true rfl) (by cases e8; rfl) ?_
    refine V_pb C hn [(.aload_n 0, 1)] (pc' := 96) (ls' := [(0, .ref (a0 0))]) (st' := [.ref (a0 0)]) (decB_ok (by decide +kernel)) rfl rfl ?_
    refine V_get C (v := .int (t_token w7)) (by decide +kernel) 0 4 fk_RX3_25 rfl rfl ?_
    refine V_pb C hn [(.iconst 1, 1)] (pc' := 100) (ls' := [(0, .ref (a0 0))]) (st' := [.int (1 : Int32), .int (t_token w7)]) (decB_ok (by decide +kernel)) rfl rfl ?_
    refine V_ic_eq C (off := 11) (tgt := 111) (by decide +kernel) (by decide) h (fun _ h => ?_) (fun _ h => ?_)
    · refine V_sub (ls' := [(0, .ref (a0 0))]) rfl ?_
      exact cfX3_readToken_L111 C hn FU _ h
    · refine V_pb C hn [(.aload_n 0, 1)] (pc' := 104) (ls' := [(0, .ref (a0 0))]) (st' := [.ref (a0 0)]) (decB_ok (by decide +kernel)) rfl rfl ?_
      refine V_get C (v := .int (t_token w7)) (by decide +kernel) 0 4 fk_RX3_25 rfl rfl ?_
      refine V_pb C hn [(.iconst 2, 1)] (pc' := 108) (ls' := [(0, .ref (a0 0))]) (st' := [.int (2 : Int32), .int (t_token w7)]) (decB_ok (by decide +kernel)) rfl rfl ?_
      refine V_ic_ne C (off := 46) (tgt := 154) (by decide +kernel) (by decide) h (fun _ h => ?_) (fun _ h => ?_)
      · refine V_sub (ls' := [(0, .ref (a0 0))]) rfl ?_
        exact cfX3_readToken_L111 C hn FU _ h
      · have h := Option.some.inj h
        subst h
        exact V_vret C (by decide +kernel)
set_option maxRecDepth 100000 in
set_option maxHeartbeats 400000 in
theorem cfX3_readToken_j38 {E : VE} (C : Ctx E cX3_readToken RX3 1 none) (hn : E.nL = 1) {a0 : Nat → Nat} {S0 : TapeT} {out : TapeT} (h : fX3_readToken_j38 S0 = some out) : V E (QR E none (wdT E.G a0 out)) (wdT E.G a0 S0) 38 [(0, .ref (a0 0))] [] := by
  unfold fX3_readToken_j38 at h
  refine V_pb C hn [(.aload_n 0, 1), (.aload_n 0, 1)] (pc' := 40) (ls' := [(0, .ref (a0 0))]) (st' := [.ref (a0 0), .ref (a0 0)]) (decB_ok (by decide +kernel)) rfl rfl ?_
  refine V_get C (v := .int (t_at S0)) (by decide +kernel) 0 3 fk_RX3_19 rfl rfl ?_
  obtain ⟨w1, e2, h⟩ := bnd h
  refine V_put C (v := .int (t_at S0)) (ws' := wdT E.G a0 w1) (by decide +kernel) 0 2 pk_RX3_105 rfl rfl rfl (Nat.le_of_ble_eq_true rfl) (by cases e2; rfl) ?_
  refine V_pb C hn [(.aload_n 0, 1), (.aload_n 0, 1)] (pc' := 48) (ls' := [(0, .ref (a0 0))]) (st' := [.ref (a0 0), .ref (a0 0)]) (decB_ok (by decide +kernel)) rfl rfl ?_
  refine V_get C (v := .int (t_at w1)) (by decide +kernel) 0 3 fk_RX3_19 rfl rfl ?_
  refine V_pb C hn [(.aload_n 0, 1)] (pc' := 52) (ls' := [(0, .ref (a0 0))]) (st' := [.ref (a0 0), .int (t_at w1), .ref (a0 0)]) (decB_ok (by decide +kernel)) rfl rfl ?_
  refine V_get C (v := .int (t_size w1)) (by decide +kernel) 0 1 fk_RX3_15 rfl rfl ?_
  refine V_ic_ge C (off := 18) (tgt := 73) (by decide +kernel) (by decide) h (fun _ h => ?_) (fun _ h => ?_)
  · refine V_pb C hn [(.iconst 0, 1)] (pc' := 74) (ls' := [(0, .ref (a0 0))]) (st' := [.int (0 : Int32), .ref (a0 0)]) (decB_ok (by decide +kernel)) rfl rfl ?_
    refine V_sub (ls' := [(0, .ref (a0 0))]) rfl ?_
    exact cfX3_readToken_j74 C hn h
  · refine V_pb C hn [(.aload_n 0, 1)] (pc' := 59) (ls' := [(0, .ref (a0 0))]) (st' := [.ref (a0 0), .ref (a0 0)]) (decB_ok (by decide +kernel)) rfl rfl ?_
    refine V_get C (v := .ref (a0 1)) (by decide +kernel) 0 0 fk_RX3_9 rfl rfl ?_
    refine V_pb C hn [(.aload_n 0, 1)] (pc' := 63) (ls' := [(0, .ref (a0 0))]) (st' := [.ref (a0 0), .ref (a0 1), .ref (a0 0)]) (decB_ok (by decide +kernel)) rfl rfl ?_
    refine V_get C (v := .int (t_at w1)) (by decide +kernel) 0 3 fk_RX3_19 rfl rfl ?_
    refine V_iald C (f := (t_bytes w1)) (by decide +kernel) 1 rfl h (fun h => ?_)
    obtain ⟨q15, h16, h⟩ := bnd h
    refine V_callSp C (As := [.int ((t_bytes w1) (ix (t_at w1)))]) (rest := [.ref (a0 0)]) (by decide +kernel) ok_yX3_sortOf mk_RX3_117 (cfX3_sortOf (l := E.l) (G := E.G) h16) [] rfl rfl rfl rfl (Nat.le_of_ble_eq_true rfl) (Nat.le_of_ble_eq_true rfl) (Nat.le_of_ble_eq_true rfl) ?_
    show V E _ (wdT E.G a0 w1) 70 [(0, .ref (a0 0))] [.int q15, .ref (a0 0)]
    refine V_goto C (off := 4) (tgt := 74) (by decide +kernel) (by decide) ?_
    refine V_sub (ls' := [(0, .ref (a0 0))]) rfl ?_
    exact cfX3_readToken_j74 C hn h
set_option maxRecDepth 100000 in
set_option maxHeartbeats 400000 in
theorem cfX3_readToken_L0 {E : VE} (C : Ctx E cX3_readToken RX3 1 none) (hn : E.nL = 1) {a0 : Nat → Nat} {out : TapeT} : ∀ (n : Nat) (S0 : TapeT), fX3_readToken_L0 n S0 = some out → V E (QR E none (wdT E.G a0 out)) (wdT E.G a0 S0) 0 [(0, .ref (a0 0))] [] := by
  intro n
  induction n with
  | zero =>
    intro S0 h
    cases h
  | succ n ih =>
    intro S0 h
    unfold fX3_readToken_L0 at h
    refine V_pb C hn [(.aload_n 0, 1)] (pc' := 1) (ls' := [(0, .ref (a0 0))]) (st' := [.ref (a0 0)]) (decB_ok (by decide +kernel)) rfl rfl ?_
    refine V_get C (v := .int (t_at S0)) (by decide +kernel) 0 3 fk_RX3_19 rfl rfl ?_
    refine V_pb C hn [(.aload_n 0, 1)] (pc' := 5) (ls' := [(0, .ref (a0 0))]) (st' := [.ref (a0 0), .int (t_at S0)]) (decB_ok (by decide +kernel)) rfl rfl ?_
    refine V_get C (v := .int (t_size S0)) (by decide +kernel) 0 1 fk_RX3_15 rfl rfl ?_
    refine V_ic_ge C (off := 30) (tgt := 38) (by decide +kernel) (by decide) h (fun _ h => ?_) (fun _ h => ?_)
    · refine V_sub (ls' := [(0, .ref (a0 0))]) rfl ?_
      exact cfX3_readToken_j38 C hn h
    · refine V_pb C hn [(.aload_n 0, 1)] (pc' := 12) (ls' := [(0, .ref (a0 0))]) (st' := [.ref (a0 0)]) (decB_ok (by decide +kernel)) rfl rfl ?_
      refine V_get C (v := .ref (a0 1)) (by decide +kernel) 0 0 fk_RX3_9 rfl rfl ?_
      refine V_pb C hn [(.aload_n 0, 1)] (pc' := 16) (ls' := [(0, .ref (a0 0))]) (st' := [.ref (a0 0), .ref (a0 1)]) (decB_ok (by decide +kernel)) rfl rfl ?_
      refine V_get C (v := .int (t_at S0)) (by decide +kernel) 0 3 fk_RX3_19 rfl rfl ?_
      refine V_iald C (f := (t_bytes S0)) (by decide +kernel) 1 rfl h (fun h => ?_)
      refine V_pb C hn [(.bipush 32, 2)] (pc' := 22) (ls' := [(0, .ref (a0 0))]) (st' := [.int (32 : Int32), .int ((t_bytes S0) (ix (t_at S0)))]) (decB_ok (by decide +kernel)) rfl rfl ?_
      refine V_ic_ne C (off := 16) (tgt := 38) (by decide +kernel) (by decide) h (fun _ h => ?_) (fun _ h => ?_)
      · refine V_pb C hn [(.aload_n 0, 1), (.dup, 1)] (pc' := 27) (ls' := [(0, .ref (a0 0))]) (st' := [.ref (a0 0), .ref (a0 0)]) (decB_ok (by decide +kernel)) rfl rfl ?_
        refine V_get C (v := .int (t_at S0)) (by decide +kernel) 0 3 fk_RX3_19 rfl rfl ?_
        refine V_pb C hn [(.iconst 1, 1), (.iadd, 1)] (pc' := 32) (ls' := [(0, .ref (a0 0))]) (st' := [.int ((t_at S0) + (1 : Int32)), .ref (a0 0)]) (decB_ok (by decide +kernel)) rfl rfl ?_
        obtain ⟨x21, e22, h⟩ := bnd h
        refine V_topi e22 ?_
        obtain ⟨w23, e24, h⟩ := bnd h
        refine V_put C (v := .int x21) (ws' := wdT E.G a0 w23) (by decide +kernel) 0 3 pk_RX3_19 rfl rfl rfl (Nat.le_of_ble_eq_true rfl) (by cases e24; rfl) ?_
        refine V_goto C (off := -35) (tgt := 0) (by decide +kernel) (by decide) ?_
        refine V_sub (ls' := [(0, .ref (a0 0))]) rfl ?_
        exact ih _ h
      · refine V_sub (ls' := [(0, .ref (a0 0))]) rfl ?_
        exact cfX3_readToken_j38 C hn h
set_option maxRecDepth 100000 in
set_option maxHeartbeats 400000 in
theorem cfX3_readToken {l : Launch} {G : GG} (a0 : Nat → Nat) {S0 : TapeT} {out : TapeT} (h : fX3_readToken S0 = some out) : Con l G 1 yX3_readToken cX3_readToken 1 none [.ref (a0 0)] (wdT G a0 S0) none (wdT G a0 out) := by
  refine Con_of (by decide +kernel) (Nat.le_of_ble_eq_true rfl) (fun E hl hG hn C => ?_)
  subst hl
  subst hG
  have C : Ctx E cX3_readToken RX3 1 none := C
  show V E _ _ 0 [(0, .ref (a0 0))] []
  unfold fX3_readToken at h
  refine V_pb C hn [(.aload_n 0, 1)] (pc' := 1) (ls' := [(0, .ref (a0 0))]) (st' := [.ref (a0 0)]) (decB_ok (by decide +kernel)) rfl rfl ?_
  refine V_get C (v := .int (t_at S0)) (by decide +kernel) 0 3 fk_RX3_19 rfl rfl ?_
  refine V_pb C hn [(.aload_n 0, 1)] (pc' := 5) (ls' := [(0, .ref (a0 0))]) (st' := [.ref (a0 0), .int (t_at S0)]) (decB_ok (by decide +kernel)) rfl rfl ?_
  refine V_get C (v := .int (t_size S0)) (by decide +kernel) 0 1 fk_RX3_15 rfl rfl ?_
  refine V_ic_ge C (off := 30) (tgt := 38) (by decide +kernel) (by decide) h (fun _ h => ?_) (fun _ h => ?_)
  · refine V_sub (ls' := [(0, .ref (a0 0))]) rfl ?_
    exact cfX3_readToken_j38 C hn h
  · refine V_pb C hn [(.aload_n 0, 1)] (pc' := 12) (ls' := [(0, .ref (a0 0))]) (st' := [.ref (a0 0)]) (decB_ok (by decide +kernel)) rfl rfl ?_
    refine V_get C (v := .ref (a0 1)) (by decide +kernel) 0 0 fk_RX3_9 rfl rfl ?_
    refine V_pb C hn [(.aload_n 0, 1)] (pc' := 16) (ls' := [(0, .ref (a0 0))]) (st' := [.ref (a0 0), .ref (a0 1)]) (decB_ok (by decide +kernel)) rfl rfl ?_
    refine V_get C (v := .int (t_at S0)) (by decide +kernel) 0 3 fk_RX3_19 rfl rfl ?_
    refine V_iald C (f := (t_bytes S0)) (by decide +kernel) 1 rfl h (fun h => ?_)
    refine V_pb C hn [(.bipush 32, 2)] (pc' := 22) (ls' := [(0, .ref (a0 0))]) (st' := [.int (32 : Int32), .int ((t_bytes S0) (ix (t_at S0)))]) (decB_ok (by decide +kernel)) rfl rfl ?_
    refine V_ic_ne C (off := 16) (tgt := 38) (by decide +kernel) (by decide) h (fun _ h => ?_) (fun _ h => ?_)
    · refine V_pb C hn [(.aload_n 0, 1), (.dup, 1)] (pc' := 27) (ls' := [(0, .ref (a0 0))]) (st' := [.ref (a0 0), .ref (a0 0)]) (decB_ok (by decide +kernel)) rfl rfl ?_
      refine V_get C (v := .int (t_at S0)) (by decide +kernel) 0 3 fk_RX3_19 rfl rfl ?_
      refine V_pb C hn [(.iconst 1, 1), (.iadd, 1)] (pc' := 32) (ls' := [(0, .ref (a0 0))]) (st' := [.int ((t_at S0) + (1 : Int32)), .ref (a0 0)]) (decB_ok (by decide +kernel)) rfl rfl ?_
      obtain ⟨x17, e18, h⟩ := bnd h
      refine V_topi e18 ?_
      obtain ⟨w19, e20, h⟩ := bnd h
      refine V_put C (v := .int x17) (ws' := wdT E.G a0 w19) (by decide +kernel) 0 3 pk_RX3_19 rfl rfl rfl (Nat.le_of_ble_eq_true rfl) (by cases e20; rfl) ?_
      refine V_goto C (off := -35) (tgt := 0) (by decide +kernel) (by decide) ?_
      refine V_sub (ls' := [(0, .ref (a0 0))]) rfl ?_
      exact cfX3_readToken_L0 C hn FU _ h
    · refine V_sub (ls' := [(0, .ref (a0 0))]) rfl ?_
      exact cfX3_readToken_j38 C hn h
set_option maxRecDepth 100000 in
set_option maxHeartbeats 400000 in
theorem cfX3_isWord_L20 {E : VE} (C : Ctx E cX3_isWord RX3 4 (some .boolean)) (hn : E.nL = 3) {a0 : Nat → Nat} {p1 : Nat} {S0 : TapeT} (hsp1 : p1 < 9) {out : Int32} : ∀ (n : Nat) (v2 : Int32), fX3_isWord_L20 p1 S0 n v2 = some out → V E (QR E (some (.int out)) (wdT E.G a0 S0)) (wdT E.G a0 S0) 20 [(0, .ref (a0 0)), (1, .ref (E.G.adK p1)), (2, .int v2)] [] := by
  intro n
  induction n with
  | zero =>
    intro v2 h
    cases h
  | succ n ih =>
    intro v2 h
    unfold fX3_isWord_L20 at h
    refine V_pb C hn [(.iload_n 2, 1), (.aload_n 1, 1)] (pc' := 22) (ls' := [(0, .ref (a0 0)), (1, .ref (E.G.adK p1)), (2, .int v2)]) (st' := [.ref (E.G.adK p1), .int v2]) (decB_ok (by decide +kernel)) rfl rfl ?_
    refine V_slen C (rest := [.int v2]) (by decide +kernel) mk_RX3_108 hsp1 rfl (Nat.le_of_ble_eq_true rfl) (Nat.le_of_ble_eq_true rfl) ?_
    show V E _ (wdT E.G a0 S0) 25 [(0, .ref (a0 0)), (1, .ref (E.G.adK p1)), (2, .int v2)] [.int (sLn p1), .int v2]
    refine V_ic_ge C (off := 44) (tgt := 69) (by decide +kernel) (by decide) h (fun _ h => ?_) (fun _ h => ?_)
    · refine V_pb C hn [(.iconst 1, 1)] (pc' := 70) (ls' := [(0, .ref (a0 0)), (1, .ref (E.G.adK p1)), (2, .int v2)]) (st' := [.int (1 : Int32)]) (decB_ok (by decide +kernel)) rfl rfl ?_
      have h := Option.some.inj h
      subst h
      exact V_iret C (v := (1 : Int32)) (by decide +kernel) nb1
    · refine V_pb C hn [(.aload_n 0, 1)] (pc' := 29) (ls' := [(0, .ref (a0 0)), (1, .ref (E.G.adK p1)), (2, .int v2)]) (st' := [.ref (a0 0)]) (decB_ok (by decide +kernel)) rfl rfl ?_
      refine V_get C (v := .int (t_start S0)) (by decide +kernel) 0 2 fk_RX3_105 rfl rfl ?_
      refine V_pb C hn [(.iload_n 2, 1), (.iadd, 1), (.aload_n 0, 1)] (pc' := 35) (ls' := [(0, .ref (a0 0)), (1, .ref (E.G.adK p1)), (2, .int v2)]) (st' := [.ref (a0 0), .int ((t_start S0) + v2)]) (decB_ok (by decide +kernel)) rfl rfl ?_
      refine V_get C (v := .ref (a0 1)) (by decide +kernel) 0 0 fk_RX3_9 rfl rfl ?_
      refine V_alen C (v := (250 : Int32)) (by decide +kernel) 1 0 rfl rfl rfl ?_
      refine V_ic_ge C (off := 30) (tgt := 69) (by decide +kernel) (by decide) h (fun _ h => ?_) (fun _ h => ?_)
      · refine V_pb C hn [(.iconst 1, 1)] (pc' := 70) (ls' := [(0, .ref (a0 0)), (1, .ref (E.G.adK p1)), (2, .int v2)]) (st' := [.int (1 : Int32)]) (decB_ok (by decide +kernel)) rfl rfl ?_
        have h := Option.some.inj h
        subst h
        exact V_iret C (v := (1 : Int32)) (by decide +kernel) nb1
      · refine V_pb C hn [(.aload_n 0, 1)] (pc' := 43) (ls' := [(0, .ref (a0 0)), (1, .ref (E.G.adK p1)), (2, .int v2)]) (st' := [.ref (a0 0)]) (decB_ok (by decide +kernel)) rfl rfl ?_
        refine V_get C (v := .ref (a0 1)) (by decide +kernel) 0 0 fk_RX3_9 rfl rfl ?_
        refine V_pb C hn [(.aload_n 0, 1)] (pc' := 47) (ls' := [(0, .ref (a0 0)), (1, .ref (E.G.adK p1)), (2, .int v2)]) (st' := [.ref (a0 0), .ref (a0 1)]) (decB_ok (by decide +kernel)) rfl rfl ?_
        refine V_get C (v := .int (t_start S0)) (by decide +kernel) 0 2 fk_RX3_105 rfl rfl ?_
        refine V_pb C hn [(.iload_n 2, 1), (.iadd, 1)] (pc' := 52) (ls' := [(0, .ref (a0 0)), (1, .ref (E.G.adK p1)), (2, .int v2)]) (st' := [.int ((t_start S0) + v2), .ref (a0 1)]) (decB_ok (by decide +kernel)) rfl rfl ?_
        refine V_iald C (f := (t_bytes S0)) (by decide +kernel) 1 rfl h (fun h => ?_)
        refine V_pb C hn [(.aload_n 1, 1), (.iload_n 2, 1)] (pc' := 55) (ls' := [(0, .ref (a0 0)), (1, .ref (E.G.adK p1)), (2, .int v2)]) (st' := [.int v2, .ref (E.G.adK p1), .int ((t_bytes S0) (ix ((t_start S0) + v2)))]) (decB_ok (by decide +kernel)) rfl rfl ?_
        refine V_sch C (rest := [.int ((t_bytes S0) (ix ((t_start S0) + v2)))]) (by decide +kernel) mk_RX3_113 hsp1 h rfl (Nat.le_of_ble_eq_true rfl) (Nat.le_of_ble_eq_true rfl) (fun h => ?_)
        show V E _ (wdT E.G a0 S0) 58 [(0, .ref (a0 0)), (1, .ref (E.G.adK p1)), (2, .int v2)] [.int (sCh p1 (ix v2)), .int ((t_bytes S0) (ix ((t_start S0) + v2)))]
        refine V_ic_eq C (off := 5) (tgt := 63) (by decide +kernel) (by decide) h (fun _ h => ?_) (fun _ h => ?_)
        · refine V_pb C hn [(.iinc 2 1, 3)] (pc' := 66) (ls' := [(0, .ref (a0 0)), (1, .ref (E.G.adK p1)), (2, .int (v2 + (1 : Int32)))]) (st' := []) (decB_ok (by decide +kernel)) rfl rfl ?_
          refine V_goto C (off := -46) (tgt := 20) (by decide +kernel) (by decide) ?_
          refine V_sub (ls' := [(0, .ref (a0 0)), (1, .ref (E.G.adK p1)), (2, .int (v2 + (1 : Int32)))]) rfl ?_
          exact ih _ h
        · refine V_pb C hn [(.iconst 0, 1)] (pc' := 62) (ls' := [(0, .ref (a0 0)), (1, .ref (E.G.adK p1)), (2, .int v2)]) (st' := [.int (0 : Int32)]) (decB_ok (by decide +kernel)) rfl rfl ?_
          have h := Option.some.inj h
          subst h
          exact V_iret C (v := (0 : Int32)) (by decide +kernel) nb0
set_option maxRecDepth 100000 in
set_option maxHeartbeats 400000 in
theorem cfX3_isWord {l : Launch} {G : GG} (a0 : Nat → Nat) {p1 : Nat} {S0 : TapeT} {out : Int32} (hsp1 : p1 < 9) (h : fX3_isWord p1 S0 = some out) : Con l G 4 yX3_isWord cX3_isWord 3 (some .boolean) [.ref (a0 0), .ref (G.adK p1)] (wdT G a0 S0) (some (.int out)) (wdT G a0 S0) := by
  refine Con_of (by decide +kernel) (Nat.le_of_ble_eq_true rfl) (fun E hl hG hn C => ?_)
  subst hl
  subst hG
  have C : Ctx E cX3_isWord RX3 4 (some .boolean) := C
  show V E _ _ 0 [(0, .ref (a0 0)), (1, .ref (E.G.adK p1))] []
  unfold fX3_isWord at h
  refine V_pb C hn [(.aload_n 0, 1)] (pc' := 1) (ls' := [(0, .ref (a0 0)), (1, .ref (E.G.adK p1))]) (st' := [.ref (a0 0)]) (decB_ok (by decide +kernel)) rfl rfl ?_
  refine V_get C (v := .int (t_at S0)) (by decide +kernel) 0 3 fk_RX3_19 rfl rfl ?_
  refine V_pb C hn [(.aload_n 0, 1)] (pc' := 5) (ls' := [(0, .ref (a0 0)), (1, .ref (E.G.adK p1))]) (st' := [.ref (a0 0), .int (t_at S0)]) (decB_ok (by decide +kernel)) rfl rfl ?_
  refine V_get C (v := .int (t_start S0)) (by decide +kernel) 0 2 fk_RX3_105 rfl rfl ?_
  refine V_pb C hn [(.isub, 1), (.aload_n 1, 1)] (pc' := 10) (ls' := [(0, .ref (a0 0)), (1, .ref (E.G.adK p1))]) (st' := [.ref (E.G.adK p1), .int ((t_at S0) - (t_start S0))]) (decB_ok (by decide +kernel)) rfl rfl ?_
  refine V_slen C (rest := [.int ((t_at S0) - (t_start S0))]) (by decide +kernel) mk_RX3_108 hsp1 rfl (Nat.le_of_ble_eq_true rfl) (Nat.le_of_ble_eq_true rfl) ?_
  show V E _ (wdT E.G a0 S0) 13 [(0, .ref (a0 0)), (1, .ref (E.G.adK p1))] [.int (sLn p1), .int ((t_at S0) - (t_start S0))]
  refine V_ic_eq C (off := 5) (tgt := 18) (by decide +kernel) (by decide) h (fun _ h => ?_) (fun _ h => ?_)
  · refine V_pb C hn [(.iconst 0, 1), (.istore_n 2, 1)] (pc' := 20) (ls' := [(0, .ref (a0 0)), (1, .ref (E.G.adK p1)), (2, .int (0 : Int32))]) (st' := []) (decB_ok (by decide +kernel)) rfl rfl ?_
    refine V_sub (ls' := [(0, .ref (a0 0)), (1, .ref (E.G.adK p1)), (2, .int (0 : Int32))]) rfl ?_
    exact cfX3_isWord_L20 C hn hsp1 FU _ h
  · refine V_pb C hn [(.iconst 0, 1)] (pc' := 17) (ls' := [(0, .ref (a0 0)), (1, .ref (E.G.adK p1))]) (st' := [.int (0 : Int32)]) (decB_ok (by decide +kernel)) rfl rfl ?_
    have h := Option.some.inj h
    subst h
    exact V_iret C (v := (0 : Int32)) (by decide +kernel) nb0
set_option maxRecDepth 100000 in
set_option maxHeartbeats 400000 in
theorem cfX3_tokenValue_L7 {E : VE} (C : Ctx E cX3_tokenValue RX3 0 (some .int)) (hn : E.nL = 3) {a0 : Nat → Nat} {S0 : TapeT} {out : Int32} : ∀ (n : Nat) (v1 : Int32) (v2 : Int32), fX3_tokenValue_L7 S0 n v1 v2 = some out → V E (QR E (some (.int out)) (wdT E.G a0 S0)) (wdT E.G a0 S0) 7 [(0, .ref (a0 0)), (1, .int v1), (2, .int v2)] [] := by
  intro n
  induction n with
  | zero =>
    intro v1 v2 h
    cases h
  | succ n ih =>
    intro v1 v2 h
    unfold fX3_tokenValue_L7 at h
    refine V_pb C hn [(.iload_n 2, 1), (.aload_n 0, 1)] (pc' := 9) (ls' := [(0, .ref (a0 0)), (1, .int v1), (2, .int v2)]) (st' := [.ref (a0 0), .int v2]) (decB_ok (by decide +kernel)) rfl rfl ?_
    refine V_get C (v := .int (t_at S0)) (by decide +kernel) 0 3 fk_RX3_19 rfl rfl ?_
    refine V_ic_ge C (off := 43) (tgt := 55) (by decide +kernel) (by decide) h (fun _ h => ?_) (fun _ h => ?_)
    · refine V_pb C hn [(.iload_n 1, 1)] (pc' := 56) (ls' := [(0, .ref (a0 0)), (1, .int v1), (2, .int v2)]) (st' := [.int v1]) (decB_ok (by decide +kernel)) rfl rfl ?_
      have h := Option.some.inj h
      subst h
      exact V_iret C (by decide +kernel) rfl
    · refine V_pb C hn [(.iload_n 2, 1), (.aload_n 0, 1)] (pc' := 17) (ls' := [(0, .ref (a0 0)), (1, .int v1), (2, .int v2)]) (st' := [.ref (a0 0), .int v2]) (decB_ok (by decide +kernel)) rfl rfl ?_
      refine V_get C (v := .int (t_start S0)) (by decide +kernel) 0 2 fk_RX3_105 rfl rfl ?_
      refine V_pb C hn [(.iconst 3, 1), (.iadd, 1)] (pc' := 22) (ls' := [(0, .ref (a0 0)), (1, .int v1), (2, .int v2)]) (st' := [.int ((t_start S0) + (3 : Int32)), .int v2]) (decB_ok (by decide +kernel)) rfl rfl ?_
      refine V_ic_ge C (off := 33) (tgt := 55) (by decide +kernel) (by decide) h (fun _ h => ?_) (fun _ h => ?_)
      · refine V_pb C hn [(.iload_n 1, 1)] (pc' := 56) (ls' := [(0, .ref (a0 0)), (1, .int v1), (2, .int v2)]) (st' := [.int v1]) (decB_ok (by decide +kernel)) rfl rfl ?_
        have h := Option.some.inj h
        subst h
        exact V_iret C (by decide +kernel) rfl
      · refine V_pb C hn [(.iload_n 2, 1), (.aload_n 0, 1)] (pc' := 27) (ls' := [(0, .ref (a0 0)), (1, .int v1), (2, .int v2)]) (st' := [.ref (a0 0), .int v2]) (decB_ok (by decide +kernel)) rfl rfl ?_
        refine V_get C (v := .ref (a0 1)) (by decide +kernel) 0 0 fk_RX3_9 rfl rfl ?_
        refine V_alen C (v := (250 : Int32)) (by decide +kernel) 1 0 rfl rfl rfl ?_
        refine V_ic_ge C (off := 24) (tgt := 55) (by decide +kernel) (by decide) h (fun _ h => ?_) (fun _ h => ?_)
        · refine V_pb C hn [(.iload_n 1, 1)] (pc' := 56) (ls' := [(0, .ref (a0 0)), (1, .int v1), (2, .int v2)]) (st' := [.int v1]) (decB_ok (by decide +kernel)) rfl rfl ?_
          have h := Option.some.inj h
          subst h
          exact V_iret C (by decide +kernel) rfl
        · refine V_pb C hn [(.bipush 10, 2), (.iload_n 1, 1), (.imul, 1), (.aload_n 0, 1)] (pc' := 39) (ls' := [(0, .ref (a0 0)), (1, .int v1), (2, .int v2)]) (st' := [.ref (a0 0), .int ((10 : Int32) * v1)]) (decB_ok (by decide +kernel)) rfl rfl ?_
          refine V_get C (v := .ref (a0 1)) (by decide +kernel) 0 0 fk_RX3_9 rfl rfl ?_
          refine V_pb C hn [(.iload_n 2, 1)] (pc' := 43) (ls' := [(0, .ref (a0 0)), (1, .int v1), (2, .int v2)]) (st' := [.int v2, .ref (a0 1), .int ((10 : Int32) * v1)]) (decB_ok (by decide +kernel)) rfl rfl ?_
          refine V_iald C (f := (t_bytes S0)) (by decide +kernel) 1 rfl h (fun h => ?_)
          refine V_pb C hn [(.iadd, 1), (.bipush 48, 2), (.isub, 1), (.istore_n 1, 1), (.iinc 2 1, 3)] (pc' := 52) (ls' := [(0, .ref (a0 0)), (1, .int ((((10 : Int32) * v1) + ((t_bytes S0) (ix v2))) - (48 : Int32))), (2, .int (v2 + (1 : Int32)))]) (st' := []) (decB_ok (by decide +kernel)) rfl rfl ?_
          refine V_goto C (off := -45) (tgt := 7) (by decide +kernel) (by decide) ?_
          refine V_sub (ls' := [(0, .ref (a0 0)), (1, .int ((((10 : Int32) * v1) + ((t_bytes S0) (ix v2))) - (48 : Int32))), (2, .int (v2 + (1 : Int32)))]) rfl ?_
          exact ih _ _ h
set_option maxRecDepth 100000 in
set_option maxHeartbeats 400000 in
theorem cfX3_tokenValue {l : Launch} {G : GG} (a0 : Nat → Nat) {S0 : TapeT} {out : Int32} (h : fX3_tokenValue S0 = some out) : Con l G 0 yX3_tokenValue cX3_tokenValue 3 (some .int) [.ref (a0 0)] (wdT G a0 S0) (some (.int out)) (wdT G a0 S0) := by
  refine Con_of (by decide +kernel) (Nat.le_of_ble_eq_true rfl) (fun E hl hG hn C => ?_)
  subst hl
  subst hG
  have C : Ctx E cX3_tokenValue RX3 0 (some .int) := C
  show V E _ _ 0 [(0, .ref (a0 0))] []
  unfold fX3_tokenValue at h
  refine V_pb C hn [(.iconst 0, 1), (.istore_n 1, 1), (.aload_n 0, 1)] (pc' := 3) (ls' := [(0, .ref (a0 0)), (1, .int (0 : Int32))]) (st' := [.ref (a0 0)]) (decB_ok (by decide +kernel)) rfl rfl ?_
  refine V_get C (v := .int (t_start S0)) (by decide +kernel) 0 2 fk_RX3_105 rfl rfl ?_
  refine V_pb C hn [(.istore_n 2, 1)] (pc' := 7) (ls' := [(0, .ref (a0 0)), (1, .int (0 : Int32)), (2, .int (t_start S0))]) (st' := []) (decB_ok (by decide +kernel)) rfl rfl ?_
  refine V_sub (ls' := [(0, .ref (a0 0)), (1, .int (0 : Int32)), (2, .int (t_start S0))]) rfl ?_
  exact cfX3_tokenValue_L7 C hn FU _ _ h
set_option maxRecDepth 100000 in
set_option maxHeartbeats 400000 in
theorem cfX3_readNumber {l : Launch} {G : GG} (a0 : Nat → Nat) {p1 : Int32} {S0 : TapeT} {out : Int32 × TapeT} (h : fX3_readNumber p1 S0 = some out) : Con l G 2 yX3_readNumber cX3_readNumber 2 (some .boolean) [.ref (a0 0), .int p1] (wdT G a0 S0) (some (.int out.1)) (wdT G a0 out.2) := by
  refine Con_of (by decide +kernel) (Nat.le_of_ble_eq_true rfl) (fun E hl hG hn C => ?_)
  subst hl
  subst hG
  have C : Ctx E cX3_readNumber RX3 2 (some .boolean) := C
  show V E _ _ 0 [(0, .ref (a0 0)), (1, .int p1)] []
  unfold fX3_readNumber at h
  refine V_pb C hn [(.aload_n 0, 1)] (pc' := 1) (ls' := [(0, .ref (a0 0)), (1, .int p1)]) (st' := [.ref (a0 0)]) (decB_ok (by decide +kernel)) rfl rfl ?_
  obtain ⟨q1, h2, h⟩ := bnd h
  refine V_callV0 C (As := []) (rest := []) (by decide +kernel) ok_yX3_readToken mk_RX3_22 (cfX3_readToken (l := E.l) (G := E.G) a0 h2) (q0 := 0) rfl rfl rfl rfl rfl rfl (Nat.le_of_ble_eq_true rfl) (Nat.le_of_ble_eq_true rfl) (Nat.le_of_ble_eq_true rfl) ?_
  show V E _ (wdT E.G a0 q1) 4 [(0, .ref (a0 0)), (1, .int p1)] []
  refine V_pb C hn [(.aload_n 0, 1)] (pc' := 5) (ls' := [(0, .ref (a0 0)), (1, .int p1)]) (st' := [.ref (a0 0)]) (decB_ok (by decide +kernel)) rfl rfl ?_
  refine V_get C (v := .int (t_token q1)) (by decide +kernel) 0 4 fk_RX3_25 rfl rfl ?_
  refine V_pb C hn [(.iconst 2, 1)] (pc' := 9) (ls' := [(0, .ref (a0 0)), (1, .int p1)]) (st' := [.int (2 : Int32), .int (t_token q1)]) (decB_ok (by decide +kernel)) rfl rfl ?_
  refine V_ic_ne C (off := 28) (tgt := 37) (by decide +kernel) (by decide) h (fun _ h => ?_) (fun _ h => ?_)
  · refine V_pb C hn [(.aload_n 0, 1)] (pc' := 13) (ls' := [(0, .ref (a0 0)), (1, .int p1)]) (st' := [.ref (a0 0)]) (decB_ok (by decide +kernel)) rfl rfl ?_
    refine V_get C (v := .int (t_at q1)) (by decide +kernel) 0 3 fk_RX3_19 rfl rfl ?_
    refine V_pb C hn [(.aload_n 0, 1)] (pc' := 17) (ls' := [(0, .ref (a0 0)), (1, .int p1)]) (st' := [.ref (a0 0), .int (t_at q1)]) (decB_ok (by decide +kernel)) rfl rfl ?_
    refine V_get C (v := .int (t_start q1)) (by decide +kernel) 0 2 fk_RX3_105 rfl rfl ?_
    refine V_pb C hn [(.isub, 1), (.iconst 3, 1)] (pc' := 22) (ls' := [(0, .ref (a0 0)), (1, .int p1)]) (st' := [.int (3 : Int32), .int ((t_at q1) - (t_start q1))]) (decB_ok (by decide +kernel)) rfl rfl ?_
    refine V_ic_gt C (off := 15) (tgt := 37) (by decide +kernel) (by decide) h (fun _ h => ?_) (fun _ h => ?_)
    · refine V_pb C hn [(.iconst 0, 1)] (pc' := 38) (ls' := [(0, .ref (a0 0)), (1, .int p1)]) (st' := [.int (0 : Int32)]) (decB_ok (by decide +kernel)) rfl rfl ?_
      have h := Option.some.inj h
      subst h
      exact V_iret C (v := (0 : Int32)) (by decide +kernel) nb0
    · refine V_pb C hn [(.aload_n 0, 1)] (pc' := 26) (ls' := [(0, .ref (a0 0)), (1, .int p1)]) (st' := [.ref (a0 0)]) (decB_ok (by decide +kernel)) rfl rfl ?_
      obtain ⟨q3, h4, h⟩ := bnd h
      refine V_callV0 C (As := []) (rest := []) (by decide +kernel) ok_yX3_tokenValue mk_RX3_72 (cfX3_tokenValue (l := E.l) (G := E.G) a0 h4) (q0 := 0) rfl rfl rfl rfl rfl rfl (Nat.le_of_ble_eq_true rfl) (Nat.le_of_ble_eq_true rfl) (Nat.le_of_ble_eq_true rfl) ?_
      show V E _ (wdT E.G a0 q1) 29 [(0, .ref (a0 0)), (1, .int p1)] [.int q3]
      refine V_pb C hn [(.iload_n 1, 1)] (pc' := 30) (ls' := [(0, .ref (a0 0)), (1, .int p1)]) (st' := [.int p1, .int q3]) (decB_ok (by decide +kernel)) rfl rfl ?_
      refine V_ic_gt C (off := 7) (tgt := 37) (by decide +kernel) (by decide) h (fun _ h => ?_) (fun _ h => ?_)
      · refine V_pb C hn [(.iconst 0, 1)] (pc' := 38) (ls' := [(0, .ref (a0 0)), (1, .int p1)]) (st' := [.int (0 : Int32)]) (decB_ok (by decide +kernel)) rfl rfl ?_
        have h := Option.some.inj h
        subst h
        exact V_iret C (v := (0 : Int32)) (by decide +kernel) nb0
      · refine V_pb C hn [(.iconst 1, 1)] (pc' := 34) (ls' := [(0, .ref (a0 0)), (1, .int p1)]) (st' := [.int (1 : Int32)]) (decB_ok (by decide +kernel)) rfl rfl ?_
        refine V_goto C (off := 4) (tgt := 38) (by decide +kernel) (by decide) ?_
        have h := Option.some.inj h
        subst h
        exact V_iret C (v := (1 : Int32)) (by decide +kernel) nb1
  · refine V_pb C hn [(.iconst 0, 1)] (pc' := 38) (ls' := [(0, .ref (a0 0)), (1, .int p1)]) (st' := [.int (0 : Int32)]) (decB_ok (by decide +kernel)) rfl rfl ?_
    have h := Option.some.inj h
    subst h
    exact V_iret C (v := (0 : Int32)) (by decide +kernel) nb0
set_option maxRecDepth 100000 in
set_option maxHeartbeats 400000 in
theorem cfX3_readSide {l : Launch} {G : GG} (a0 : Nat → Nat) (a1 : Nat → Nat) {S0 : TapeT} {S1 : HallT} {out : Int32 × TapeT × HallT} (h : fX3_readSide S0 S1 = some out) : Con l G 3 yX3_readSide cX3_readSide 2 (some .boolean) [.ref (a0 0), .ref (a1 0)] (wdT G a0 S0 ++ wdH G a1 S1) (some (.int out.1)) (wdT G a0 out.2.1 ++ wdH G a1 out.2.2) := by
  refine Con_of (by decide +kernel) (Nat.le_of_ble_eq_true rfl) (fun E hl hG hn C => ?_)
  subst hl
  subst hG
  have C : Ctx E cX3_readSide RX3 3 (some .boolean) := C
  show V E _ _ 0 [(0, .ref (a0 0)), (1, .ref (a1 0))] []
  unfold fX3_readSide at h
  refine V_pb C hn [(.aload_n 0, 1), (.bipush 7, 2)] (pc' := 3) (ls' := [(0, .ref (a0 0)), (1, .ref (a1 0))]) (st' := [.int (7 : Int32), .ref (a0 0)]) (decB_ok (by decide +kernel)) rfl rfl ?_
  obtain ⟨q1, h2, h⟩ := bnd h
  refine V_callV (ws' := wdT E.G a0 q1.2 ++ wdH E.G a1 S1) C (As := [.int (7 : Int32)]) (rest := []) (by decide +kernel) ok_yX3_readNumber mk_RX3_68 (cfX3_readNumber (l := E.l) (G := E.G) a0 h2) [0, 1] (q0 := 0) rfl rfl rfl rfl rfl rfl rfl rfl rfl (Nat.le_of_ble_eq_true rfl) (Nat.le_of_ble_eq_true rfl) (Nat.le_of_ble_eq_true rfl) ?_
  show V E _ (wdT E.G a0 q1.2 ++ wdH E.G a1 S1) 6 [(0, .ref (a0 0)), (1, .ref (a1 0))] [.int q1.1]
  refine V_if_eq C (off := 14) (tgt := 20) (by decide +kernel) (by decide) h (fun _ h => ?_) (fun _ h => ?_)
  · refine V_pb C hn [(.iconst 0, 1)] (pc' := 21) (ls' := [(0, .ref (a0 0)), (1, .ref (a1 0))]) (st' := [.int (0 : Int32)]) (decB_ok (by decide +kernel)) rfl rfl ?_
    have h := Option.some.inj h
    subst h
    exact V_iret C (v := (0 : Int32)) (by decide +kernel) nb0
  · refine V_pb C hn [(.aload_n 1, 1), (.aload_n 0, 1)] (pc' := 11) (ls' := [(0, .ref (a0 0)), (1, .ref (a1 0))]) (st' := [.ref (a0 0), .ref (a1 0)]) (decB_ok (by decide +kernel)) rfl rfl ?_
    obtain ⟨q3, h4, h⟩ := bnd h
    refine V_callVp C (As := []) (rest := [.ref (a1 0)]) (by decide +kernel) ok_yX3_tokenValue mk_RX3_72 (cfX3_tokenValue (l := E.l) (G := E.G) a0 h4) [0, 1] (q0 := 0) rfl rfl rfl rfl rfl rfl rfl (Nat.le_of_ble_eq_true rfl) (Nat.le_of_ble_eq_true rfl) (Nat.le_of_ble_eq_true rfl) ?_
    show V E _ (wdT E.G a0 q1.2 ++ wdH E.G a1 S1) 14 [(0, .ref (a0 0)), (1, .ref (a1 0))] [.int q3, .ref (a1 0)]
    obtain ⟨q5, h6, h⟩ := bnd h
    refine V_callVp C (As := [.int q3]) (rest := []) (by decide +kernel) ok_yX1_maySide mk_RX3_89 (cfX1_maySide (l := E.l) (G := E.G) a1 h6) [2, 3, 4, 5] (q0 := 0) rfl rfl rfl rfl rfl rfl rfl (Nat.le_of_ble_eq_true rfl) (Nat.le_of_ble_eq_true rfl) (Nat.le_of_ble_eq_true rfl) ?_
    show V E _ (wdT E.G a0 q1.2 ++ wdH E.G a1 S1) 17 [(0, .ref (a0 0)), (1, .ref (a1 0))] [.int q5]
    refine V_if_ne C (off := 5) (tgt := 22) (by decide +kernel) (by decide) h (fun _ h => ?_) (fun _ h => ?_)
    · refine V_pb C hn [(.iconst 0, 1)] (pc' := 21) (ls' := [(0, .ref (a0 0)), (1, .ref (a1 0))]) (st' := [.int (0 : Int32)]) (decB_ok (by decide +kernel)) rfl rfl ?_
      have h := Option.some.inj h
      subst h
      exact V_iret C (v := (0 : Int32)) (by decide +kernel) nb0
    · refine V_pb C hn [(.aload_n 1, 1), (.aload_n 0, 1)] (pc' := 24) (ls' := [(0, .ref (a0 0)), (1, .ref (a1 0))]) (st' := [.ref (a0 0), .ref (a1 0)]) (decB_ok (by decide +kernel)) rfl rfl ?_
      obtain ⟨q7, h8, h⟩ := bnd h
      refine V_callVp C (As := []) (rest := [.ref (a1 0)]) (by decide +kernel) ok_yX3_tokenValue mk_RX3_72 (cfX3_tokenValue (l := E.l) (G := E.G) a0 h8) [0, 1] (q0 := 0) rfl rfl rfl rfl rfl rfl rfl (Nat.le_of_ble_eq_true rfl) (Nat.le_of_ble_eq_true rfl) (Nat.le_of_ble_eq_true rfl) ?_
      show V E _ (wdT E.G a0 q1.2 ++ wdH E.G a1 S1) 27 [(0, .ref (a0 0)), (1, .ref (a1 0))] [.int q7, .ref (a1 0)]
      refine V_put C (v := .int q7) (ws' := wdT E.G a0 q1.2 ++ wdH E.G a1 (hs_side S1 q7)) (by decide +kernel) 2 0 pk_RX3_92 rfl rfl rfl (Nat.le_of_ble_eq_true rfl) rfl ?_
      refine V_pb C hn [(.iconst 1, 1)] (pc' := 31) (ls' := [(0, .ref (a0 0)), (1, .ref (a1 0))]) (st' := [.int (1 : Int32)]) (decB_ok (by decide +kernel)) rfl rfl ?_
      have h := Option.some.inj h
      subst h
      exact V_iret C (v := (1 : Int32)) (by decide +kernel) nb1
set_option maxRecDepth 100000 in
set_option maxHeartbeats 400000 in
theorem cfX3_readMote {l : Launch} {G : GG} (a0 : Nat → Nat) (a1 : Nat → Nat) {S0 : TapeT} {S1 : HallT} {out : Int32 × TapeT × HallT} (h : fX3_readMote S0 S1 = some out) : Con l G 3 yX3_readMote cX3_readMote 4 (some .boolean) [.ref (a0 0), .ref (a1 0)] (wdT G a0 S0 ++ wdH G a1 S1) (some (.int out.1)) (wdT G a0 out.2.1 ++ wdH G a1 out.2.2) := by
  refine Con_of (by decide +kernel) (Nat.le_of_ble_eq_true rfl) (fun E hl hG hn C => ?_)
  subst hl
  subst hG
  have C : Ctx E cX3_readMote RX3 3 (some .boolean) := C
  show V E _ _ 0 [(0, .ref (a0 0)), (1, .ref (a1 0))] []
  unfold fX3_readMote at h
  refine V_pb C hn [(.aload_n 0, 1), (.iconst 5, 1)] (pc' := 2) (ls' := [(0, .ref (a0 0)), (1, .ref (a1 0))]) (st' := [.int (5 : Int32), .ref (a0 0)]) (decB_ok (by decide +kernel)) rfl rfl ?_
  obtain ⟨q1, h2, h⟩ := bnd h
  refine V_callV (ws' := wdT E.G a0 q1.2 ++ wdH E.G a1 S1) C (As := [.int (5 : Int32)]) (rest := []) (by decide +kernel) ok_yX3_readNumber mk_RX3_68 (cfX3_readNumber (l := E.l) (G := E.G) a0 h2) [0, 1] (q0 := 0) rfl rfl rfl rfl rfl rfl rfl rfl rfl (Nat.le_of_ble_eq_true rfl) (Nat.le_of_ble_eq_true rfl) (Nat.le_of_ble_eq_true rfl) ?_
  show V E _ (wdT E.G a0 q1.2 ++ wdH E.G a1 S1) 5 [(0, .ref (a0 0)), (1, .ref (a1 0))] [.int q1.1]
  refine V_if_ne C (off := 5) (tgt := 10) (by decide +kernel) (by decide) h (fun _ h => ?_) (fun _ h => ?_)
  · refine V_pb C hn [(.iconst 0, 1)] (pc' := 9) (ls' := [(0, .ref (a0 0)), (1, .ref (a1 0))]) (st' := [.int (0 : Int32)]) (decB_ok (by decide +kernel)) rfl rfl ?_
    have h := Option.some.inj h
    subst h
    exact V_iret C (v := (0 : Int32)) (by decide +kernel) nb0
  · refine V_pb C hn [(.aload_n 0, 1)] (pc' := 11) (ls' := [(0, .ref (a0 0)), (1, .ref (a1 0))]) (st' := [.ref (a0 0)]) (decB_ok (by decide +kernel)) rfl rfl ?_
    obtain ⟨q3, h4, h⟩ := bnd h
    refine V_callVp C (As := []) (rest := []) (by decide +kernel) ok_yX3_tokenValue mk_RX3_72 (cfX3_tokenValue (l := E.l) (G := E.G) a0 h4) [0, 1] (q0 := 0) rfl rfl rfl rfl rfl rfl rfl (Nat.le_of_ble_eq_true rfl) (Nat.le_of_ble_eq_true rfl) (Nat.le_of_ble_eq_true rfl) ?_
    show V E _ (wdT E.G a0 q1.2 ++ wdH E.G a1 S1) 14 [(0, .ref (a0 0)), (1, .ref (a1 0))] [.int q3]
    refine V_pb C hn [(.istore_n 2, 1), (.aload_n 0, 1), (.bipush 9, 2)] (pc' := 18) (ls' := [(0, .ref (a0 0)), (1, .ref (a1 0)), (2, .int q3)]) (st' := [.int (9 : Int32), .ref (a0 0)]) (decB_ok (by decide +kernel)) rfl rfl ?_
    obtain ⟨q5, h6, h⟩ := bnd h
    refine V_callV (ws' := wdT E.G a0 q5.2 ++ wdH E.G a1 S1) C (As := [.int (9 : Int32)]) (rest := []) (by decide +kernel) ok_yX3_readNumber mk_RX3_68 (cfX3_readNumber (l := E.l) (G := E.G) a0 h6) [0, 1] (q0 := 0) rfl rfl rfl rfl rfl rfl rfl rfl rfl (Nat.le_of_ble_eq_true rfl) (Nat.le_of_ble_eq_true rfl) (Nat.le_of_ble_eq_true rfl) ?_
    show V E _ (wdT E.G a0 q5.2 ++ wdH E.G a1 S1) 21 [(0, .ref (a0 0)), (1, .ref (a1 0)), (2, .int q3)] [.int q5.1]
    refine V_if_ne C (off := 5) (tgt := 26) (by decide +kernel) (by decide) h (fun _ h => ?_) (fun _ h => ?_)
    · refine V_pb C hn [(.iconst 0, 1)] (pc' := 25) (ls' := [(0, .ref (a0 0)), (1, .ref (a1 0)), (2, .int q3)]) (st' := [.int (0 : Int32)]) (decB_ok (by decide +kernel)) rfl rfl ?_
      have h := Option.some.inj h
      subst h
      exact V_iret C (v := (0 : Int32)) (by decide +kernel) nb0
    · refine V_pb C hn [(.aload_n 0, 1)] (pc' := 27) (ls' := [(0, .ref (a0 0)), (1, .ref (a1 0)), (2, .int q3)]) (st' := [.ref (a0 0)]) (decB_ok (by decide +kernel)) rfl rfl ?_
      obtain ⟨q7, h8, h⟩ := bnd h
      refine V_callVp C (As := []) (rest := []) (by decide +kernel) ok_yX3_tokenValue mk_RX3_72 (cfX3_tokenValue (l := E.l) (G := E.G) a0 h8) [0, 1] (q0 := 0) rfl rfl rfl rfl rfl rfl rfl (Nat.le_of_ble_eq_true rfl) (Nat.le_of_ble_eq_true rfl) (Nat.le_of_ble_eq_true rfl) ?_
      show V E _ (wdT E.G a0 q5.2 ++ wdH E.G a1 S1) 30 [(0, .ref (a0 0)), (1, .ref (a1 0)), (2, .int q3)] [.int q7]
      refine V_pb C hn [(.istore_n 3, 1), (.aload_n 0, 1), (.sipush 999, 3)] (pc' := 35) (ls' := [(0, .ref (a0 0)), (1, .ref (a1 0)), (2, .int q3), (3, .int q7)]) (st' := [.int (999 : Int32), .ref (a0 0)]) (decB_ok (by decide +kernel)) rfl rfl ?_
      obtain ⟨q9, h10, h⟩ := bnd h
      refine V_callV (ws' := wdT E.G a0 q9.2 ++ wdH E.G a1 S1) C (As := [.int (999 : Int32)]) (rest := []) (by decide +kernel) ok_yX3_readNumber mk_RX3_68 (cfX3_readNumber (l := E.l) (G := E.G) a0 h10) [0, 1] (q0 := 0) rfl rfl rfl rfl rfl rfl rfl rfl rfl (Nat.le_of_ble_eq_true rfl) (Nat.le_of_ble_eq_true rfl) (Nat.le_of_ble_eq_true rfl) ?_
      show V E _ (wdT E.G a0 q9.2 ++ wdH E.G a1 S1) 38 [(0, .ref (a0 0)), (1, .ref (a1 0)), (2, .int q3), (3, .int q7)] [.int q9.1]
      refine V_if_eq C (off := 14) (tgt := 52) (by decide +kernel) (by decide) h (fun _ h => ?_) (fun _ h => ?_)
      · refine V_pb C hn [(.iconst 0, 1)] (pc' := 53) (ls' := [(0, .ref (a0 0)), (1, .ref (a1 0)), (2, .int q3), (3, .int q7)]) (st' := [.int (0 : Int32)]) (decB_ok (by decide +kernel)) rfl rfl ?_
        have h := Option.some.inj h
        subst h
        exact V_iret C (v := (0 : Int32)) (by decide +kernel) nb0
      · refine V_pb C hn [(.aload_n 1, 1), (.aload_n 0, 1)] (pc' := 43) (ls' := [(0, .ref (a0 0)), (1, .ref (a1 0)), (2, .int q3), (3, .int q7)]) (st' := [.ref (a0 0), .ref (a1 0)]) (decB_ok (by decide +kernel)) rfl rfl ?_
        obtain ⟨q11, h12, h⟩ := bnd h
        refine V_callVp C (As := []) (rest := [.ref (a1 0)]) (by decide +kernel) ok_yX3_tokenValue mk_RX3_72 (cfX3_tokenValue (l := E.l) (G := E.G) a0 h12) [0, 1] (q0 := 0) rfl rfl rfl rfl rfl rfl rfl (Nat.le_of_ble_eq_true rfl) (Nat.le_of_ble_eq_true rfl) (Nat.le_of_ble_eq_true rfl) ?_
        show V E _ (wdT E.G a0 q9.2 ++ wdH E.G a1 S1) 46 [(0, .ref (a0 0)), (1, .ref (a1 0)), (2, .int q3), (3, .int q7)] [.int q11, .ref (a1 0)]
        obtain ⟨q13, h14, h⟩ := bnd h
        refine V_callVp C (As := [.int q11]) (rest := []) (by decide +kernel) ok_yX1_isCell mk_RX3_94 (cfX1_isCell (l := E.l) (G := E.G) a1 h14) [2, 3, 4, 5] (q0 := 0) rfl rfl rfl rfl rfl rfl rfl (Nat.le_of_ble_eq_true rfl) (Nat.le_of_ble_eq_true rfl) (Nat.le_of_ble_eq_true rfl) ?_
        show V E _ (wdT E.G a0 q9.2 ++ wdH E.G a1 S1) 49 [(0, .ref (a0 0)), (1, .ref (a1 0)), (2, .int q3), (3, .int q7)] [.int q13]
        refine V_if_ne C (off := 5) (tgt := 54) (by decide +kernel) (by decide) h (fun _ h => ?_) (fun _ h => ?_)
        · refine V_pb C hn [(.iconst 0, 1)] (pc' := 53) (ls' := [(0, .ref (a0 0)), (1, .ref (a1 0)), (2, .int q3), (3, .int q7)]) (st' := [.int (0 : Int32)]) (decB_ok (by decide +kernel)) rfl rfl ?_
          have h := Option.some.inj h
          subst h
          exact V_iret C (v := (0 : Int32)) (by decide +kernel) nb0
        · refine V_pb C hn [(.aload_n 1, 1), (.iload_n 2, 1), (.iload_n 3, 1), (.aload_n 0, 1)] (pc' := 58) (ls' := [(0, .ref (a0 0)), (1, .ref (a1 0)), (2, .int q3), (3, .int q7)]) (st' := [.ref (a0 0), .int q7, .int q3, .ref (a1 0)]) (decB_ok (by decide +kernel)) rfl rfl ?_
          obtain ⟨q15, h16, h⟩ := bnd h
          refine V_callVp C (As := []) (rest := [.int q7, .int q3, .ref (a1 0)]) (by decide +kernel) ok_yX3_tokenValue mk_RX3_72 (cfX3_tokenValue (l := E.l) (G := E.G) a0 h16) [0, 1] (q0 := 0) rfl rfl rfl rfl rfl rfl rfl (Nat.le_of_ble_eq_true rfl) (Nat.le_of_ble_eq_true rfl) (Nat.le_of_ble_eq_true rfl) ?_
          show V E _ (wdT E.G a0 q9.2 ++ wdH E.G a1 S1) 61 [(0, .ref (a0 0)), (1, .ref (a1 0)), (2, .int q3), (3, .int q7)] [.int q15, .int q7, .int q3, .ref (a1 0)]
          obtain ⟨q17, h18, h⟩ := bnd h
          refine V_callV (ws' := wdT E.G a0 q9.2 ++ wdH E.G a1 q17) C (As := [.int q3, .int q7, .int q15]) (rest := []) (by decide +kernel) ok_yX1_add mk_RX3_97 (cfX1_add (l := E.l) (G := E.G) a1 h18) [2, 3, 4, 5] (q0 := 0) rfl rfl rfl rfl rfl rfl rfl rfl rfl (Nat.le_of_ble_eq_true rfl) (Nat.le_of_ble_eq_true rfl) (Nat.le_of_ble_eq_true rfl) ?_
          show V E _ (wdT E.G a0 q9.2 ++ wdH E.G a1 q17) 64 [(0, .ref (a0 0)), (1, .ref (a1 0)), (2, .int q3), (3, .int q7)] []
          refine V_pb C hn [(.iconst 1, 1)] (pc' := 65) (ls' := [(0, .ref (a0 0)), (1, .ref (a1 0)), (2, .int q3), (3, .int q7)]) (st' := [.int (1 : Int32)]) (decB_ok (by decide +kernel)) rfl rfl ?_
          have h := Option.some.inj h
          subst h
          exact V_iret C (v := (1 : Int32)) (by decide +kernel) nb1
set_option maxRecDepth 100000 in
set_option maxHeartbeats 400000 in
theorem cfX3_readDoor {l : Launch} {G : GG} (a0 : Nat → Nat) (a1 : Nat → Nat) {p2 : Int32} {S0 : TapeT} {S1 : HallT} {out : Int32 × TapeT × HallT} (h : fX3_readDoor p2 S0 S1 = some out) : Con l G 3 yX3_readDoor cX3_readDoor 3 (some .boolean) [.ref (a0 0), .ref (a1 0), .int p2] (wdT G a0 S0 ++ wdH G a1 S1) (some (.int out.1)) (wdT G a0 out.2.1 ++ wdH G a1 out.2.2) := by
  refine Con_of (by decide +kernel) (Nat.le_of_ble_eq_true rfl) (fun E hl hG hn C => ?_)
  subst hl
  subst hG
  have C : Ctx E cX3_readDoor RX3 3 (some .boolean) := C
  show V E _ _ 0 [(0, .ref (a0 0)), (1, .ref (a1 0)), (2, .int p2)] []
  unfold fX3_readDoor at h
  refine V_pb C hn [(.aload_n 0, 1), (.iconst 3, 1)] (pc' := 2) (ls' := [(0, .ref (a0 0)), (1, .ref (a1 0)), (2, .int p2)]) (st' := [.int (3 : Int32), .ref (a0 0)]) (decB_ok (by decide +kernel)) rfl rfl ?_
  obtain ⟨q1, h2, h⟩ := bnd h
  refine V_callV (ws' := wdT E.G a0 q1.2 ++ wdH E.G a1 S1) C (As := [.int (3 : Int32)]) (rest := []) (by decide +kernel) ok_yX3_readNumber mk_RX3_68 (cfX3_readNumber (l := E.l) (G := E.G) a0 h2) [0, 1] (q0 := 0) rfl rfl rfl rfl rfl rfl rfl rfl rfl (Nat.le_of_ble_eq_true rfl) (Nat.le_of_ble_eq_true rfl) (Nat.le_of_ble_eq_true rfl) ?_
  show V E _ (wdT E.G a0 q1.2 ++ wdH E.G a1 S1) 5 [(0, .ref (a0 0)), (1, .ref (a1 0)), (2, .int p2)] [.int q1.1]
  refine V_if_ne C (off := 5) (tgt := 10) (by decide +kernel) (by decide) h (fun _ h => ?_) (fun _ h => ?_)
  · refine V_pb C hn [(.iconst 0, 1)] (pc' := 9) (ls' := [(0, .ref (a0 0)), (1, .ref (a1 0)), (2, .int p2)]) (st' := [.int (0 : Int32)]) (decB_ok (by decide +kernel)) rfl rfl ?_
    have h := Option.some.inj h
    subst h
    exact V_iret C (v := (0 : Int32)) (by decide +kernel) nb0
  · refine V_pb C hn [(.aload_n 1, 1), (.aload_n 0, 1)] (pc' := 12) (ls' := [(0, .ref (a0 0)), (1, .ref (a1 0)), (2, .int p2)]) (st' := [.ref (a0 0), .ref (a1 0)]) (decB_ok (by decide +kernel)) rfl rfl ?_
    obtain ⟨q3, h4, h⟩ := bnd h
    refine V_callVp C (As := []) (rest := [.ref (a1 0)]) (by decide +kernel) ok_yX3_tokenValue mk_RX3_72 (cfX3_tokenValue (l := E.l) (G := E.G) a0 h4) [0, 1] (q0 := 0) rfl rfl rfl rfl rfl rfl rfl (Nat.le_of_ble_eq_true rfl) (Nat.le_of_ble_eq_true rfl) (Nat.le_of_ble_eq_true rfl) ?_
    show V E _ (wdT E.G a0 q1.2 ++ wdH E.G a1 S1) 15 [(0, .ref (a0 0)), (1, .ref (a1 0)), (2, .int p2)] [.int q3, .ref (a1 0)]
    refine V_pb C hn [(.iload_n 2, 1)] (pc' := 16) (ls' := [(0, .ref (a0 0)), (1, .ref (a1 0)), (2, .int p2)]) (st' := [.int p2, .int q3, .ref (a1 0)]) (decB_ok (by decide +kernel)) rfl rfl ?_
    obtain ⟨q5, h6, h⟩ := bnd h
    refine V_callV (ws' := wdT E.G a0 q1.2 ++ wdH E.G a1 q5) C (As := [.int q3, .int p2]) (rest := []) (by decide +kernel) ok_yX1_setDoor mk_RX3_101 (cfX1_setDoor (l := E.l) (G := E.G) a1 h6) [2, 3, 4, 5] (q0 := 0) rfl rfl rfl rfl rfl rfl rfl rfl rfl (Nat.le_of_ble_eq_true rfl) (Nat.le_of_ble_eq_true rfl) (Nat.le_of_ble_eq_true rfl) ?_
    show V E _ (wdT E.G a0 q1.2 ++ wdH E.G a1 q5) 19 [(0, .ref (a0 0)), (1, .ref (a1 0)), (2, .int p2)] []
    refine V_pb C hn [(.iconst 1, 1)] (pc' := 20) (ls' := [(0, .ref (a0 0)), (1, .ref (a1 0)), (2, .int p2)]) (st' := [.int (1 : Int32)]) (decB_ok (by decide +kernel)) rfl rfl ?_
    have h := Option.some.inj h
    subst h
    exact V_iret C (v := (1 : Int32)) (by decide +kernel) nb1
set_option maxRecDepth 100000 in
set_option maxHeartbeats 400000 in
theorem cfX3_toldWord {l : Launch} {G : GG} (a0 : Nat → Nat) {S0 : TapeT} {out : Int32} (h : fX3_toldWord S0 = some out) : Con l G 5 yX3_toldWord cX3_toldWord 1 (some .int) [.ref (a0 0)] (wdT G a0 S0) (some (.int out)) (wdT G a0 S0) := by
  refine Con_of (by decide +kernel) (Nat.le_of_ble_eq_true rfl) (fun E hl hG hn C => ?_)
  subst hl
  subst hG
  have C : Ctx E cX3_toldWord RX3 5 (some .int) := C
  show V E _ _ 0 [(0, .ref (a0 0))] []
  unfold fX3_toldWord at h
  refine V_pb C hn [(.aload_n 0, 1)] (pc' := 1) (ls' := [(0, .ref (a0 0))]) (st' := [.ref (a0 0)]) (decB_ok (by decide +kernel)) rfl rfl ?_
  refine V_ldcS C (by decide +kernel) (sr_4) ?_
  obtain ⟨q1, h2, h⟩ := bnd h
  refine V_callV0 C (As := [.ref (E.G.adK 4)]) (rest := []) (by decide +kernel) ok_yX3_isWord mk_RX3_34 (cfX3_isWord (l := E.l) (G := E.G) a0 (by decide) h2) (q0 := 0) rfl rfl rfl rfl rfl rfl (Nat.le_of_ble_eq_true rfl) (Nat.le_of_ble_eq_true rfl) (Nat.le_of_ble_eq_true rfl) ?_
  show V E _ (wdT E.G a0 S0) 6 [(0, .ref (a0 0))] [.int q1]
  refine V_if_eq C (off := 5) (tgt := 11) (by decide +kernel) (by decide) h (fun _ h => ?_) (fun _ h => ?_)
  · refine V_pb C hn [(.aload_n 0, 1)] (pc' := 12) (ls' := [(0, .ref (a0 0))]) (st' := [.ref (a0 0)]) (decB_ok (by decide +kernel)) rfl rfl ?_
    refine V_ldcS C (by decide +kernel) (sr_5) ?_
    obtain ⟨q3, h4, h⟩ := bnd h
    refine V_callV0 C (As := [.ref (E.G.adK 5)]) (rest := []) (by decide +kernel) ok_yX3_isWord mk_RX3_34 (cfX3_isWord (l := E.l) (G := E.G) a0 (by decide) h4) (q0 := 0) rfl rfl rfl rfl rfl rfl (Nat.le_of_ble_eq_true rfl) (Nat.le_of_ble_eq_true rfl) (Nat.le_of_ble_eq_true rfl) ?_
    show V E _ (wdT E.G a0 S0) 17 [(0, .ref (a0 0))] [.int q3]
    refine V_if_eq C (off := 5) (tgt := 22) (by decide +kernel) (by decide) h (fun _ h => ?_) (fun _ h => ?_)
    · refine V_pb C hn [(.aload_n 0, 1)] (pc' := 23) (ls' := [(0, .ref (a0 0))]) (st' := [.ref (a0 0)]) (decB_ok (by decide +kernel)) rfl rfl ?_
      refine V_ldcS C (by decide +kernel) (sr_6) ?_
      obtain ⟨q5, h6, h⟩ := bnd h
      refine V_callV0 C (As := [.ref (E.G.adK 6)]) (rest := []) (by decide +kernel) ok_yX3_isWord mk_RX3_34 (cfX3_isWord (l := E.l) (G := E.G) a0 (by decide) h6) (q0 := 0) rfl rfl rfl rfl rfl rfl (Nat.le_of_ble_eq_true rfl) (Nat.le_of_ble_eq_true rfl) (Nat.le_of_ble_eq_true rfl) ?_
      show V E _ (wdT E.G a0 S0) 28 [(0, .ref (a0 0))] [.int q5]
      refine V_if_eq C (off := 5) (tgt := 33) (by decide +kernel) (by decide) h (fun _ h => ?_) (fun _ h => ?_)
      · refine V_pb C hn [(.aload_n 0, 1)] (pc' := 34) (ls' := [(0, .ref (a0 0))]) (st' := [.ref (a0 0)]) (decB_ok (by decide +kernel)) rfl rfl ?_
        refine V_ldcS C (by decide +kernel) (sr_7) ?_
        obtain ⟨q7, h8, h⟩ := bnd h
        refine V_callV0 C (As := [.ref (E.G.adK 7)]) (rest := []) (by decide +kernel) ok_yX3_isWord mk_RX3_34 (cfX3_isWord (l := E.l) (G := E.G) a0 (by decide) h8) (q0 := 0) rfl rfl rfl rfl rfl rfl (Nat.le_of_ble_eq_true rfl) (Nat.le_of_ble_eq_true rfl) (Nat.le_of_ble_eq_true rfl) ?_
        show V E _ (wdT E.G a0 S0) 39 [(0, .ref (a0 0))] [.int q7]
        refine V_if_eq C (off := 5) (tgt := 44) (by decide +kernel) (by decide) h (fun _ h => ?_) (fun _ h => ?_)
        · refine V_pb C hn [(.aload_n 0, 1)] (pc' := 45) (ls' := [(0, .ref (a0 0))]) (st' := [.ref (a0 0)]) (decB_ok (by decide +kernel)) rfl rfl ?_
          refine V_ldcS C (by decide +kernel) (sr_8) ?_
          obtain ⟨q9, h10, h⟩ := bnd h
          refine V_callV0 C (As := [.ref (E.G.adK 8)]) (rest := []) (by decide +kernel) ok_yX3_isWord mk_RX3_34 (cfX3_isWord (l := E.l) (G := E.G) a0 (by decide) h10) (q0 := 0) rfl rfl rfl rfl rfl rfl (Nat.le_of_ble_eq_true rfl) (Nat.le_of_ble_eq_true rfl) (Nat.le_of_ble_eq_true rfl) ?_
          show V E _ (wdT E.G a0 S0) 50 [(0, .ref (a0 0))] [.int q9]
          refine V_if_eq C (off := 7) (tgt := 57) (by decide +kernel) (by decide) h (fun _ h => ?_) (fun _ h => ?_)
          · refine V_pb C hn [(.iconst (-1), 1)] (pc' := 58) (ls' := [(0, .ref (a0 0))]) (st' := [.int (cI (-1))]) (decB_ok (by decide +kernel)) rfl rfl ?_
            have h := Option.some.inj h
            subst h
            exact V_iret C (by decide +kernel) rfl
          · refine V_pb C hn [(.iconst 4, 1)] (pc' := 54) (ls' := [(0, .ref (a0 0))]) (st' := [.int (4 : Int32)]) (decB_ok (by decide +kernel)) rfl rfl ?_
            refine V_goto C (off := 4) (tgt := 58) (by decide +kernel) (by decide) ?_
            have h := Option.some.inj h
            subst h
            exact V_iret C (by decide +kernel) rfl
        · refine V_pb C hn [(.iconst 3, 1)] (pc' := 43) (ls' := [(0, .ref (a0 0))]) (st' := [.int (3 : Int32)]) (decB_ok (by decide +kernel)) rfl rfl ?_
          have h := Option.some.inj h
          subst h
          exact V_iret C (by decide +kernel) rfl
      · refine V_pb C hn [(.iconst 2, 1)] (pc' := 32) (ls' := [(0, .ref (a0 0))]) (st' := [.int (2 : Int32)]) (decB_ok (by decide +kernel)) rfl rfl ?_
        have h := Option.some.inj h
        subst h
        exact V_iret C (by decide +kernel) rfl
    · refine V_pb C hn [(.iconst 1, 1)] (pc' := 21) (ls' := [(0, .ref (a0 0))]) (st' := [.int (1 : Int32)]) (decB_ok (by decide +kernel)) rfl rfl ?_
      have h := Option.some.inj h
      subst h
      exact V_iret C (by decide +kernel) rfl
  · refine V_pb C hn [(.iconst 0, 1)] (pc' := 10) (ls' := [(0, .ref (a0 0))]) (st' := [.int (0 : Int32)]) (decB_ok (by decide +kernel)) rfl rfl ?_
    have h := Option.some.inj h
    subst h
    exact V_iret C (by decide +kernel) rfl
set_option maxRecDepth 100000 in
set_option maxHeartbeats 400000 in
theorem cfX3_readStatement {l : Launch} {G : GG} (a0 : Nat → Nat) (a1 : Nat → Nat) {S0 : TapeT} {S1 : HallT} {out : Int32 × TapeT × HallT} (h : fX3_readStatement S0 S1 = some out) : Con l G 6 yX3_readStatement cX3_readStatement 3 (some .boolean) [.ref (a0 0), .ref (a1 0)] (wdT G a0 S0 ++ wdH G a1 S1) (some (.int out.1)) (wdT G a0 out.2.1 ++ wdH G a1 out.2.2) := by
  refine Con_of (by decide +kernel) (Nat.le_of_ble_eq_true rfl) (fun E hl hG hn C => ?_)
  subst hl
  subst hG
  have C : Ctx E cX3_readStatement RX3 6 (some .boolean) := C
  show V E _ _ 0 [(0, .ref (a0 0)), (1, .ref (a1 0))] []
  unfold fX3_readStatement at h
  refine V_pb C hn [(.aload_n 0, 1)] (pc' := 1) (ls' := [(0, .ref (a0 0)), (1, .ref (a1 0))]) (st' := [.ref (a0 0)]) (decB_ok (by decide +kernel)) rfl rfl ?_
  refine V_ldcS C (by decide +kernel) (sr_0) ?_
  obtain ⟨q1, h2, h⟩ := bnd h
  refine V_callVp C (As := [.ref (E.G.adK 0)]) (rest := []) (by decide +kernel) ok_yX3_isWord mk_RX3_34 (cfX3_isWord (l := E.l) (G := E.G) a0 (by decide) h2) [0, 1] (q0 := 0) rfl rfl rfl rfl rfl rfl rfl (Nat.le_of_ble_eq_true rfl) (Nat.le_of_ble_eq_true rfl) (Nat.le_of_ble_eq_true rfl) ?_
  show V E _ (wdT E.G a0 S0 ++ wdH E.G a1 S1) 6 [(0, .ref (a0 0)), (1, .ref (a1 0))] [.int q1]
  refine V_if_eq C (off := 9) (tgt := 15) (by decide +kernel) (by decide) h (fun _ h => ?_) (fun _ h => ?_)
  · refine V_pb C hn [(.aload_n 0, 1)] (pc' := 16) (ls' := [(0, .ref (a0 0)), (1, .ref (a1 0))]) (st' := [.ref (a0 0)]) (decB_ok (by decide +kernel)) rfl rfl ?_
    refine V_ldcS C (by decide +kernel) (sr_1) ?_
    obtain ⟨q3, h4, h⟩ := bnd h
    refine V_callVp C (As := [.ref (E.G.adK 1)]) (rest := []) (by decide +kernel) ok_yX3_isWord mk_RX3_34 (cfX3_isWord (l := E.l) (G := E.G) a0 (by decide) h4) [0, 1] (q0 := 0) rfl rfl rfl rfl rfl rfl rfl (Nat.le_of_ble_eq_true rfl) (Nat.le_of_ble_eq_true rfl) (Nat.le_of_ble_eq_true rfl) ?_
    show V E _ (wdT E.G a0 S0 ++ wdH E.G a1 S1) 21 [(0, .ref (a0 0)), (1, .ref (a1 0))] [.int q3]
    refine V_if_eq C (off := 24) (tgt := 45) (by decide +kernel) (by decide) h (fun _ h => ?_) (fun _ h => ?_)
    · refine V_pb C hn [(.aload_n 0, 1)] (pc' := 46) (ls' := [(0, .ref (a0 0)), (1, .ref (a1 0))]) (st' := [.ref (a0 0)]) (decB_ok (by decide +kernel)) rfl rfl ?_
      refine V_ldcS C (by decide +kernel) (sr_2) ?_
      obtain ⟨q5, h6, h⟩ := bnd h
      refine V_callVp C (As := [.ref (E.G.adK 2)]) (rest := []) (by decide +kernel) ok_yX3_isWord mk_RX3_34 (cfX3_isWord (l := E.l) (G := E.G) a0 (by decide) h6) [0, 1] (q0 := 0) rfl rfl rfl rfl rfl rfl rfl (Nat.le_of_ble_eq_true rfl) (Nat.le_of_ble_eq_true rfl) (Nat.le_of_ble_eq_true rfl) ?_
      show V E _ (wdT E.G a0 S0 ++ wdH E.G a1 S1) 51 [(0, .ref (a0 0)), (1, .ref (a1 0))] [.int q5]
      refine V_if_eq C (off := 10) (tgt := 61) (by decide +kernel) (by decide) h (fun _ h => ?_) (fun _ h => ?_)
      · refine V_pb C hn [(.aload_n 0, 1)] (pc' := 62) (ls' := [(0, .ref (a0 0)), (1, .ref (a1 0))]) (st' := [.ref (a0 0)]) (decB_ok (by decide +kernel)) rfl rfl ?_
        refine V_ldcS C (by decide +kernel) (sr_3) ?_
        obtain ⟨q7, h8, h⟩ := bnd h
        refine V_callVp C (As := [.ref (E.G.adK 3)]) (rest := []) (by decide +kernel) ok_yX3_isWord mk_RX3_34 (cfX3_isWord (l := E.l) (G := E.G) a0 (by decide) h8) [0, 1] (q0 := 0) rfl rfl rfl rfl rfl rfl rfl (Nat.le_of_ble_eq_true rfl) (Nat.le_of_ble_eq_true rfl) (Nat.le_of_ble_eq_true rfl) ?_
        show V E _ (wdT E.G a0 S0 ++ wdH E.G a1 S1) 67 [(0, .ref (a0 0)), (1, .ref (a1 0))] [.int q7]
        refine V_if_eq C (off := 10) (tgt := 77) (by decide +kernel) (by decide) h (fun _ h => ?_) (fun _ h => ?_)
        · refine V_pb C hn [(.aload_n 0, 1)] (pc' := 78) (ls' := [(0, .ref (a0 0)), (1, .ref (a1 0))]) (st' := [.ref (a0 0)]) (decB_ok (by decide +kernel)) rfl rfl ?_
          obtain ⟨q9, h10, h⟩ := bnd h
          refine V_callVp C (As := []) (rest := []) (by decide +kernel) ok_yX3_toldWord mk_RX3_60 (cfX3_toldWord (l := E.l) (G := E.G) a0 h10) [0, 1] (q0 := 0) rfl rfl rfl rfl rfl rfl rfl (Nat.le_of_ble_eq_true rfl) (Nat.le_of_ble_eq_true rfl) (Nat.le_of_ble_eq_true rfl) ?_
          show V E _ (wdT E.G a0 S0 ++ wdH E.G a1 S1) 81 [(0, .ref (a0 0)), (1, .ref (a1 0))] [.int q9]
          refine V_pb C hn [(.istore_n 2, 1), (.iload_n 2, 1), (.iconst (-1), 1)] (pc' := 84) (ls' := [(0, .ref (a0 0)), (1, .ref (a1 0)), (2, .int q9)]) (st' := [.int (cI (-1)), .int q9]) (decB_ok (by decide +kernel)) rfl rfl ?_
          refine V_ic_eq C (off := 14) (tgt := 98) (by decide +kernel) (by decide) h (fun _ h => ?_) (fun _ h => ?_)
          · refine V_pb C hn [(.iconst 0, 1)] (pc' := 99) (ls' := [(0, .ref (a0 0)), (1, .ref (a1 0)), (2, .int q9)]) (st' := [.int (0 : Int32)]) (decB_ok (by decide +kernel)) rfl rfl ?_
            have h := Option.some.inj h
            subst h
            exact V_iret C (v := (0 : Int32)) (by decide +kernel) nb0
          · refine V_pb C hn [(.aload_n 0, 1), (.iload_n 2, 1)] (pc' := 89) (ls' := [(0, .ref (a0 0)), (1, .ref (a1 0)), (2, .int q9)]) (st' := [.int q9, .ref (a0 0)]) (decB_ok (by decide +kernel)) rfl rfl ?_
            obtain ⟨q11, h12, h⟩ := bnd h
            refine V_callSp C (As := [.int q9]) (rest := [.ref (a0 0)]) (by decide +kernel) ok_yX1_mostTold mk_RX3_64 (cfX1_mostTold (l := E.l) (G := E.G) h12) [] rfl rfl rfl rfl (Nat.le_of_ble_eq_true rfl) (Nat.le_of_ble_eq_true rfl) (Nat.le_of_ble_eq_true rfl) ?_
            show V E _ (wdT E.G a0 S0 ++ wdH E.G a1 S1) 92 [(0, .ref (a0 0)), (1, .ref (a1 0)), (2, .int q9)] [.int q11, .ref (a0 0)]
            obtain ⟨q13, h14, h⟩ := bnd h
            refine V_callV (ws' := wdT E.G a0 q13.2 ++ wdH E.G a1 S1) C (As := [.int q11]) (rest := []) (by decide +kernel) ok_yX3_readNumber mk_RX3_68 (cfX3_readNumber (l := E.l) (G := E.G) a0 h14) [0, 1] (q0 := 0) rfl rfl rfl rfl rfl rfl rfl rfl rfl (Nat.le_of_ble_eq_true rfl) (Nat.le_of_ble_eq_true rfl) (Nat.le_of_ble_eq_true rfl) ?_
            show V E _ (wdT E.G a0 q13.2 ++ wdH E.G a1 S1) 95 [(0, .ref (a0 0)), (1, .ref (a1 0)), (2, .int q9)] [.int q13.1]
            refine V_if_ne C (off := 5) (tgt := 100) (by decide +kernel) (by decide) h (fun _ h => ?_) (fun _ h => ?_)
            · refine V_pb C hn [(.iconst 0, 1)] (pc' := 99) (ls' := [(0, .ref (a0 0)), (1, .ref (a1 0)), (2, .int q9)]) (st' := [.int (0 : Int32)]) (decB_ok (by decide +kernel)) rfl rfl ?_
              have h := Option.some.inj h
              subst h
              exact V_iret C (v := (0 : Int32)) (by decide +kernel) nb0
            · refine V_pb C hn [(.aload_n 1, 1), (.iload_n 2, 1), (.aload_n 0, 1)] (pc' := 103) (ls' := [(0, .ref (a0 0)), (1, .ref (a1 0)), (2, .int q9)]) (st' := [.ref (a0 0), .int q9, .ref (a1 0)]) (decB_ok (by decide +kernel)) rfl rfl ?_
              obtain ⟨q15, h16, h⟩ := bnd h
              refine V_callVp C (As := []) (rest := [.int q9, .ref (a1 0)]) (by decide +kernel) ok_yX3_tokenValue mk_RX3_72 (cfX3_tokenValue (l := E.l) (G := E.G) a0 h16) [0, 1] (q0 := 0) rfl rfl rfl rfl rfl rfl rfl (Nat.le_of_ble_eq_true rfl) (Nat.le_of_ble_eq_true rfl) (Nat.le_of_ble_eq_true rfl) ?_
              show V E _ (wdT E.G a0 q13.2 ++ wdH E.G a1 S1) 106 [(0, .ref (a0 0)), (1, .ref (a1 0)), (2, .int q9)] [.int q15, .int q9, .ref (a1 0)]
              obtain ⟨q17, h18, h⟩ := bnd h
              refine V_callV (ws' := wdT E.G a0 q13.2 ++ wdH E.G a1 q17) C (As := [.int q9, .int q15]) (rest := []) (by decide +kernel) ok_yX1_becomes mk_RX3_75 (cfX1_becomes (l := E.l) (G := E.G) a1 h18) [2, 3, 4, 5] (q0 := 0) rfl rfl rfl rfl rfl rfl rfl rfl rfl (Nat.le_of_ble_eq_true rfl) (Nat.le_of_ble_eq_true rfl) (Nat.le_of_ble_eq_true rfl) ?_
              show V E _ (wdT E.G a0 q13.2 ++ wdH E.G a1 q17) 109 [(0, .ref (a0 0)), (1, .ref (a1 0)), (2, .int q9)] []
              refine V_pb C hn [(.iconst 1, 1)] (pc' := 110) (ls' := [(0, .ref (a0 0)), (1, .ref (a1 0)), (2, .int q9)]) (st' := [.int (1 : Int32)]) (decB_ok (by decide +kernel)) rfl rfl ?_
              have h := Option.some.inj h
              subst h
              exact V_iret C (v := (1 : Int32)) (by decide +kernel) nb1
        · refine V_pb C hn [(.aload_n 0, 1), (.aload_n 1, 1), (.iconst 0, 1)] (pc' := 73) (ls' := [(0, .ref (a0 0)), (1, .ref (a1 0))]) (st' := [.int (0 : Int32), .ref (a1 0), .ref (a0 0)]) (decB_ok (by decide +kernel)) rfl rfl ?_
          obtain ⟨q19, h20, h⟩ := bnd h
          refine V_callV0 C (As := [.ref (a1 0), .int (0 : Int32)]) (rest := []) (by decide +kernel) ok_yX3_readDoor mk_RX3_54 (cfX3_readDoor (l := E.l) (G := E.G) a0 a1 h20) (q0 := 0) rfl rfl rfl rfl rfl rfl (Nat.le_of_ble_eq_true rfl) (Nat.le_of_ble_eq_true rfl) (Nat.le_of_ble_eq_true rfl) ?_
          show V E _ (wdT E.G a0 q19.2.1 ++ wdH E.G a1 q19.2.2) 76 [(0, .ref (a0 0)), (1, .ref (a1 0))] [.int q19.1]
          obtain ⟨hb9, h⟩ := gd_some h
          have h := Option.some.inj h
          subst h
          exact V_iret C (by decide +kernel) (isb_nar hb9)
      · refine V_pb C hn [(.aload_n 0, 1), (.aload_n 1, 1), (.iconst 1, 1)] (pc' := 57) (ls' := [(0, .ref (a0 0)), (1, .ref (a1 0))]) (st' := [.int (1 : Int32), .ref (a1 0), .ref (a0 0)]) (decB_ok (by decide +kernel)) rfl rfl ?_
        obtain ⟨q21, h22, h⟩ := bnd h
        refine V_callV0 C (As := [.ref (a1 0), .int (1 : Int32)]) (rest := []) (by decide +kernel) ok_yX3_readDoor mk_RX3_54 (cfX3_readDoor (l := E.l) (G := E.G) a0 a1 h22) (q0 := 0) rfl rfl rfl rfl rfl rfl (Nat.le_of_ble_eq_true rfl) (Nat.le_of_ble_eq_true rfl) (Nat.le_of_ble_eq_true rfl) ?_
        show V E _ (wdT E.G a0 q21.2.1 ++ wdH E.G a1 q21.2.2) 60 [(0, .ref (a0 0)), (1, .ref (a1 0))] [.int q21.1]
        obtain ⟨hb9, h⟩ := gd_some h
        have h := Option.some.inj h
        subst h
        exact V_iret C (by decide +kernel) (isb_nar hb9)
    · refine V_pb C hn [(.aload_n 1, 1)] (pc' := 25) (ls' := [(0, .ref (a0 0)), (1, .ref (a1 0))]) (st' := [.ref (a1 0)]) (decB_ok (by decide +kernel)) rfl rfl ?_
      obtain ⟨q23, h24, h⟩ := bnd h
      refine V_callVp C (As := []) (rest := []) (by decide +kernel) ok_yX1_hasRoom mk_RX3_43 (cfX1_hasRoom (l := E.l) (G := E.G) a1 h24) [2, 3, 4, 5] (q0 := 0) rfl rfl rfl rfl rfl rfl rfl (Nat.le_of_ble_eq_true rfl) (Nat.le_of_ble_eq_true rfl) (Nat.le_of_ble_eq_true rfl) ?_
      show V E _ (wdT E.G a0 S0 ++ wdH E.G a1 S1) 28 [(0, .ref (a0 0)), (1, .ref (a1 0))] [.int q23]
      refine V_if_eq C (off := 15) (tgt := 43) (by decide +kernel) (by decide) h (fun _ h => ?_) (fun _ h => ?_)
      · refine V_pb C hn [(.iconst 0, 1)] (pc' := 44) (ls' := [(0, .ref (a0 0)), (1, .ref (a1 0))]) (st' := [.int (0 : Int32)]) (decB_ok (by decide +kernel)) rfl rfl ?_
        have h := Option.some.inj h
        subst h
        exact V_iret C (v := (0 : Int32)) (by decide +kernel) nb0
      · refine V_pb C hn [(.aload_n 0, 1), (.aload_n 1, 1)] (pc' := 33) (ls' := [(0, .ref (a0 0)), (1, .ref (a1 0))]) (st' := [.ref (a1 0), .ref (a0 0)]) (decB_ok (by decide +kernel)) rfl rfl ?_
        obtain ⟨q25, h26, h⟩ := bnd h
        refine V_callV0 C (As := [.ref (a1 0)]) (rest := []) (by decide +kernel) ok_yX3_readMote mk_RX3_49 (cfX3_readMote (l := E.l) (G := E.G) a0 a1 h26) (q0 := 0) rfl rfl rfl rfl rfl rfl (Nat.le_of_ble_eq_true rfl) (Nat.le_of_ble_eq_true rfl) (Nat.le_of_ble_eq_true rfl) ?_
        show V E _ (wdT E.G a0 q25.2.1 ++ wdH E.G a1 q25.2.2) 36 [(0, .ref (a0 0)), (1, .ref (a1 0))] [.int q25.1]
        refine V_if_eq C (off := 7) (tgt := 43) (by decide +kernel) (by decide) h (fun _ h => ?_) (fun _ h => ?_)
        · refine V_pb C hn [(.iconst 0, 1)] (pc' := 44) (ls' := [(0, .ref (a0 0)), (1, .ref (a1 0))]) (st' := [.int (0 : Int32)]) (decB_ok (by decide +kernel)) rfl rfl ?_
          have h := Option.some.inj h
          subst h
          exact V_iret C (v := (0 : Int32)) (by decide +kernel) nb0
        · refine V_pb C hn [(.iconst 1, 1)] (pc' := 40) (ls' := [(0, .ref (a0 0)), (1, .ref (a1 0))]) (st' := [.int (1 : Int32)]) (decB_ok (by decide +kernel)) rfl rfl ?_
          refine V_goto C (off := 4) (tgt := 44) (by decide +kernel) (by decide) ?_
          have h := Option.some.inj h
          subst h
          exact V_iret C (v := (1 : Int32)) (by decide +kernel) nb1
  · refine V_pb C hn [(.aload_n 0, 1), (.aload_n 1, 1)] (pc' := 11) (ls' := [(0, .ref (a0 0)), (1, .ref (a1 0))]) (st' := [.ref (a1 0), .ref (a0 0)]) (decB_ok (by decide +kernel)) rfl rfl ?_
    obtain ⟨q27, h28, h⟩ := bnd h
    refine V_callV0 C (As := [.ref (a1 0)]) (rest := []) (by decide +kernel) ok_yX3_readSide mk_RX3_38 (cfX3_readSide (l := E.l) (G := E.G) a0 a1 h28) (q0 := 0) rfl rfl rfl rfl rfl rfl (Nat.le_of_ble_eq_true rfl) (Nat.le_of_ble_eq_true rfl) (Nat.le_of_ble_eq_true rfl) ?_
    show V E _ (wdT E.G a0 q27.2.1 ++ wdH E.G a1 q27.2.2) 14 [(0, .ref (a0 0)), (1, .ref (a1 0))] [.int q27.1]
    obtain ⟨hb9, h⟩ := gd_some h
    have h := Option.some.inj h
    subst h
    exact V_iret C (by decide +kernel) (isb_nar hb9)
set_option maxRecDepth 100000 in
set_option maxHeartbeats 400000 in
theorem cfX3_read_L7 {E : VE} (C : Ctx E cX3_read RX3 7 (some .int)) (hn : E.nL = 3) {a0 : Nat → Nat} {a1 : Nat → Nat} {out : Int32 × TapeT × HallT} : ∀ (n : Nat) (v2 : Int32) (S0 : TapeT) (S1 : HallT), fX3_read_L7 n v2 S0 S1 = some out → V E (QR E (some (.int out.1)) (wdT E.G a0 out.2.1 ++ wdH E.G a1 out.2.2)) (wdT E.G a0 S0 ++ wdH E.G a1 S1) 7 [(0, .ref (a0 0)), (1, .ref (a1 0)), (2, .int v2)] [] := by
  intro n
  induction n with
  | zero =>
    intro v2 S0 S1 h
    cases h
  | succ n ih =>
    intro v2 S0 S1 h
    unfold fX3_read_L7 at h
    refine V_pb C hn [(.iload_n 2, 1), (.sipush 250, 3)] (pc' := 11) (ls' := [(0, .ref (a0 0)), (1, .ref (a1 0)), (2, .int v2)]) (st' := [.int (250 : Int32), .int v2]) (decB_ok (by decide +kernel)) rfl rfl ?_
    refine V_ic_gt C (off := 54) (tgt := 65) (by decide +kernel) (by decide) h (fun _ h => ?_) (fun _ h => ?_)
    · refine V_pb C hn [(.iconst (-1), 1)] (pc' := 66) (ls' := [(0, .ref (a0 0)), (1, .ref (a1 0)), (2, .int v2)]) (st' := [.int (cI (-1))]) (decB_ok (by decide +kernel)) rfl rfl ?_
      have h := Option.some.inj h
      subst h
      exact V_iret C (by decide +kernel) rfl
    · refine V_pb C hn [(.aload_n 0, 1)] (pc' := 15) (ls' := [(0, .ref (a0 0)), (1, .ref (a1 0)), (2, .int v2)]) (st' := [.ref (a0 0)]) (decB_ok (by decide +kernel)) rfl rfl ?_
      obtain ⟨q1, h2, h⟩ := bnd h
      refine V_callV (ws' := wdT E.G a0 q1 ++ wdH E.G a1 S1) C (As := []) (rest := []) (by decide +kernel) ok_yX3_readToken mk_RX3_22 (cfX3_readToken (l := E.l) (G := E.G) a0 h2) [0, 1] (q0 := 0) rfl rfl rfl rfl rfl rfl rfl rfl rfl (Nat.le_of_ble_eq_true rfl) (Nat.le_of_ble_eq_true rfl) (Nat.le_of_ble_eq_true rfl) ?_
      show V E _ (wdT E.G a0 q1 ++ wdH E.G a1 S1) 18 [(0, .ref (a0 0)), (1, .ref (a1 0)), (2, .int v2)] []
      refine V_pb C hn [(.aload_n 0, 1)] (pc' := 19) (ls' := [(0, .ref (a0 0)), (1, .ref (a1 0)), (2, .int v2)]) (st' := [.ref (a0 0)]) (decB_ok (by decide +kernel)) rfl rfl ?_
      refine V_get C (v := .int (t_token q1)) (by decide +kernel) 0 4 fk_RX3_25 rfl rfl ?_
      refine V_pb C hn [(.iconst 1, 1)] (pc' := 23) (ls' := [(0, .ref (a0 0)), (1, .ref (a1 0)), (2, .int v2)]) (st' := [.int (1 : Int32), .int (t_token q1)]) (decB_ok (by decide +kernel)) rfl rfl ?_
      refine V_ic_ne C (off := 11) (tgt := 34) (by decide +kernel) (by decide) h (fun _ h => ?_) (fun _ h => ?_)
      · refine V_pb C hn [(.aload_n 0, 1), (.aload_n 1, 1)] (pc' := 28) (ls' := [(0, .ref (a0 0)), (1, .ref (a1 0)), (2, .int v2)]) (st' := [.ref (a1 0), .ref (a0 0)]) (decB_ok (by decide +kernel)) rfl rfl ?_
        obtain ⟨q3, h4, h⟩ := bnd h
        refine V_callV0 C (As := [.ref (a1 0)]) (rest := []) (by decide +kernel) ok_yX3_readStatement mk_RX3_28 (cfX3_readStatement (l := E.l) (G := E.G) a0 a1 h4) (q0 := 0) rfl rfl rfl rfl rfl rfl (Nat.le_of_ble_eq_true rfl) (Nat.le_of_ble_eq_true rfl) (Nat.le_of_ble_eq_true rfl) ?_
        show V E _ (wdT E.G a0 q3.2.1 ++ wdH E.G a1 q3.2.2) 31 [(0, .ref (a0 0)), (1, .ref (a1 0)), (2, .int v2)] [.int q3.1]
        refine V_if_ne C (off := 5) (tgt := 36) (by decide +kernel) (by decide) h (fun _ h => ?_) (fun _ h => ?_)
        · refine V_pb C hn [(.iconst (-1), 1)] (pc' := 35) (ls' := [(0, .ref (a0 0)), (1, .ref (a1 0)), (2, .int v2)]) (st' := [.int (cI (-1))]) (decB_ok (by decide +kernel)) rfl rfl ?_
          have h := Option.some.inj h
          subst h
          exact V_iret C (by decide +kernel) rfl
        · refine V_pb C hn [(.aload_n 0, 1)] (pc' := 37) (ls' := [(0, .ref (a0 0)), (1, .ref (a1 0)), (2, .int v2)]) (st' := [.ref (a0 0)]) (decB_ok (by decide +kernel)) rfl rfl ?_
          obtain ⟨q5, h6, h⟩ := bnd h
          refine V_callV (ws' := wdT E.G a0 q5 ++ wdH E.G a1 q3.2.2) C (As := []) (rest := []) (by decide +kernel) ok_yX3_readToken mk_RX3_22 (cfX3_readToken (l := E.l) (G := E.G) a0 h6) [0, 1] (q0 := 0) rfl rfl rfl rfl rfl rfl rfl rfl rfl (Nat.le_of_ble_eq_true rfl) (Nat.le_of_ble_eq_true rfl) (Nat.le_of_ble_eq_true rfl) ?_
          show V E _ (wdT E.G a0 q5 ++ wdH E.G a1 q3.2.2) 40 [(0, .ref (a0 0)), (1, .ref (a1 0)), (2, .int v2)] []
          refine V_pb C hn [(.aload_n 0, 1)] (pc' := 41) (ls' := [(0, .ref (a0 0)), (1, .ref (a1 0)), (2, .int v2)]) (st' := [.ref (a0 0)]) (decB_ok (by decide +kernel)) rfl rfl ?_
          refine V_get C (v := .int (t_token q5)) (by decide +kernel) 0 4 fk_RX3_25 rfl rfl ?_
          refine V_if_ne C (off := 5) (tgt := 49) (by decide +kernel) (by decide) h (fun _ h => ?_) (fun _ h => ?_)
          · refine V_pb C hn [(.iload_n 2, 1)] (pc' := 48) (ls' := [(0, .ref (a0 0)), (1, .ref (a1 0)), (2, .int v2)]) (st' := [.int v2]) (decB_ok (by decide +kernel)) rfl rfl ?_
            have h := Option.some.inj h
            subst h
            exact V_iret C (by decide +kernel) rfl
          · refine V_pb C hn [(.aload_n 0, 1)] (pc' := 50) (ls' := [(0, .ref (a0 0)), (1, .ref (a1 0)), (2, .int v2)]) (st' := [.ref (a0 0)]) (decB_ok (by decide +kernel)) rfl rfl ?_
            refine V_get C (v := .int (t_token q5)) (by decide +kernel) 0 4 fk_RX3_25 rfl rfl ?_
            refine V_pb C hn [(.iconst 3, 1)] (pc' := 54) (ls' := [(0, .ref (a0 0)), (1, .ref (a1 0)), (2, .int v2)]) (st' := [.int (3 : Int32), .int (t_token q5)]) (decB_ok (by decide +kernel)) rfl rfl ?_
            refine V_ic_eq C (off := 5) (tgt := 59) (by decide +kernel) (by decide) h (fun _ h => ?_) (fun _ h => ?_)
            · refine V_pb C hn [(.iinc 2 1, 3)] (pc' := 62) (ls' := [(0, .ref (a0 0)), (1, .ref (a1 0)), (2, .int (v2 + (1 : Int32)))]) (st' := []) (decB_ok (by decide +kernel)) rfl rfl ?_
              refine V_goto C (off := -55) (tgt := 7) (by decide +kernel) (by decide) ?_
              refine V_sub (ls' := [(0, .ref (a0 0)), (1, .ref (a1 0)), (2, .int (v2 + (1 : Int32)))]) rfl ?_
              exact ih _ _ _ h
            · refine V_pb C hn [(.iconst (-1), 1)] (pc' := 58) (ls' := [(0, .ref (a0 0)), (1, .ref (a1 0)), (2, .int v2)]) (st' := [.int (cI (-1))]) (decB_ok (by decide +kernel)) rfl rfl ?_
              have h := Option.some.inj h
              subst h
              exact V_iret C (by decide +kernel) rfl
      · refine V_pb C hn [(.iconst (-1), 1)] (pc' := 35) (ls' := [(0, .ref (a0 0)), (1, .ref (a1 0)), (2, .int v2)]) (st' := [.int (cI (-1))]) (decB_ok (by decide +kernel)) rfl rfl ?_
        have h := Option.some.inj h
        subst h
        exact V_iret C (by decide +kernel) rfl
set_option maxRecDepth 100000 in
set_option maxHeartbeats 400000 in
theorem cfX3_read {l : Launch} {G : GG} (a0 : Nat → Nat) (a1 : Nat → Nat) {S0 : TapeT} {S1 : HallT} {out : Int32 × TapeT × HallT} (h : fX3_read S0 S1 = some out) : Con l G 7 yX3_read cX3_read 3 (some .int) [.ref (a0 0), .ref (a1 0)] (wdT G a0 S0 ++ wdH G a1 S1) (some (.int out.1)) (wdT G a0 out.2.1 ++ wdH G a1 out.2.2) := by
  refine Con_of (by decide +kernel) (Nat.le_of_ble_eq_true rfl) (fun E hl hG hn C => ?_)
  subst hl
  subst hG
  have C : Ctx E cX3_read RX3 7 (some .int) := C
  show V E _ _ 0 [(0, .ref (a0 0)), (1, .ref (a1 0))] []
  unfold fX3_read at h
  refine V_pb C hn [(.aload_n 0, 1), (.iconst 0, 1)] (pc' := 2) (ls' := [(0, .ref (a0 0)), (1, .ref (a1 0))]) (st' := [.int (0 : Int32), .ref (a0 0)]) (decB_ok (by decide +kernel)) rfl rfl ?_
  refine V_put C (v := .int (0 : Int32)) (ws' := wdT E.G a0 (ts_at S0 (0 : Int32)) ++ wdH E.G a1 S1) (by decide +kernel) 0 3 pk_RX3_19 rfl rfl rfl (Nat.le_of_ble_eq_true rfl) rfl ?_
  refine V_pb C hn [(.iconst 1, 1), (.istore_n 2, 1)] (pc' := 7) (ls' := [(0, .ref (a0 0)), (1, .ref (a1 0)), (2, .int (1 : Int32))]) (st' := []) (decB_ok (by decide +kernel)) rfl rfl ?_
  refine V_sub (ls' := [(0, .ref (a0 0)), (1, .ref (a1 0)), (2, .int (1 : Int32))]) rfl ?_
  exact cfX3_read_L7 C hn FU _ _ _ h
