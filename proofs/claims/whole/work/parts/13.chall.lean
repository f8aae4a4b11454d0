set_option maxRecDepth 100000 in
set_option maxHeartbeats 400000 in
theorem cfX1_pushedByDoors_j87 {E : VE} (C : Ctx E cX1_pushedByDoors RX1 0 (some .int)) (hn : E.nL = 4) {a0 : Nat → Nat} {p1 : Int32} {S0 : HallT} {v2 : Int32} {v3 : Int32} {out : Int32} (h : fX1_pushedByDoors_j87 p1 S0 v2 v3 = some out) : V E (QR E (some (.int out)) (wdH E.G a0 S0)) (wdH E.G a0 S0) 87 [(2, .int v2), (3, .int v3)] [] := by
  unfold fX1_pushedByDoors_j87 at h
  refine V_pb C hn [(.bipush 10, 2), (.iload_n 2, 1), (.imul, 1), (.iload_n 3, 1), (.iadd, 1)] (pc' := 93) (ls' := [(2, .int v2), (3, .int v3)]) (st' := [.int (((10 : Int32) * v2) + v3)]) (decB_ok (by decide +kernel)) rfl rfl ?_
  have h := Option.some.inj h
  subst h
  exact V_iret C (by decide +kernel) rfl
set_option maxRecDepth 100000 in
set_option maxHeartbeats 400000 in
theorem cfX1_pushedByDoors_j64 {E : VE} (C : Ctx E cX1_pushedByDoors RX1 0 (some .int)) (hn : E.nL = 4) {a0 : Nat → Nat} {p1 : Int32} {S0 : HallT} {v2 : Int32} {v3 : Int32} {out : Int32} (h : fX1_pushedByDoors_j64 p1 S0 v2 v3 = some out) : V E (QR E (some (.int out)) (wdH E.G a0 S0)) (wdH E.G a0 S0) 64 [(0, .ref (a0 0)), (2, .int v2), (3, .int v3)] [] := by
  unfold fX1_pushedByDoors_j64 at h
  refine V_pb C hn [(.aload_n 0, 1)] (pc' := 65) (ls' := [(0, .ref (a0 0)), (2, .int v2), (3, .int v3)]) (st' := [.ref (a0 0)]) (decB_ok (by decide +kernel)) rfl rfl ?_
  refine V_get C (v := .int (h_doors S0)) (by decide +kernel) 0 5 fk_RX1_44 rfl rfl ?_
  refine V_pb C hn [(.bipush 8, 2), (.iand, 1)] (pc' := 71) (ls' := [(0, .ref (a0 0)), (2, .int v2), (3, .int v3)]) (st' := [.int ((h_doors S0) &&& (8 : Int32))]) (decB_ok (by decide +kernel)) rfl rfl ?_
  refine V_if_eq C (off := 16) (tgt := 87) (by decide +kernel) (by decide) h (fun _ h => ?_) (fun _ h => ?_)
  · refine V_sub (ls' := [(2, .int v2), (3, .int v3)]) rfl ?_
    exact cfX1_pushedByDoors_j87 C hn h
  · refine V_pb C hn [(.iload_n 3, 1), (.aload_n 0, 1)] (pc' := 76) (ls' := [(0, .ref (a0 0)), (2, .int v2), (3, .int v3)]) (st' := [.ref (a0 0), .int v3]) (decB_ok (by decide +kernel)) rfl rfl ?_
    refine V_get C (v := .int (h_side S0)) (by decide +kernel) 0 0 fk_RX1_9 rfl rfl ?_
    refine V_pb C hn [(.iconst 1, 1), (.isub, 1)] (pc' := 81) (ls' := [(0, .ref (a0 0)), (2, .int v2), (3, .int v3)]) (st' := [.int ((h_side S0) - (1 : Int32)), .int v3]) (decB_ok (by decide +kernel)) rfl rfl ?_
    refine V_ic_ge C (off := 6) (tgt := 87) (by decide +kernel) (by decide) h (fun _ h => ?_) (fun _ h => ?_)
    · refine V_sub (ls' := [(2, .int v2), (3, .int v3)]) rfl ?_
      exact cfX1_pushedByDoors_j87 C hn h
    · refine V_pb C hn [(.iinc 3 1, 3)] (pc' := 87) (ls' := [(0, .ref (a0 0)), (2, .int v2), (3, .int (v3 + (1 : Int32)))]) (st' := []) (decB_ok (by decide +kernel)) rfl rfl ?_
      refine V_sub (ls' := [(2, .int v2), (3, .int (v3 + (1 : Int32)))]) rfl ?_
      exact cfX1_pushedByDoors_j87 C hn h
set_option maxRecDepth 100000 in
set_option maxHeartbeats 400000 in
theorem cfX1_pushedByDoors_j48 {E : VE} (C : Ctx E cX1_pushedByDoors RX1 0 (some .int)) (hn : E.nL = 4) {a0 : Nat → Nat} {p1 : Int32} {S0 : HallT} {v2 : Int32} {v3 : Int32} {out : Int32} (h : fX1_pushedByDoors_j48 p1 S0 v2 v3 = some out) : V E (QR E (some (.int out)) (wdH E.G a0 S0)) (wdH E.G a0 S0) 48 [(0, .ref (a0 0)), (2, .int v2), (3, .int v3)] [] := by
  unfold fX1_pushedByDoors_j48 at h
  refine V_pb C hn [(.aload_n 0, 1)] (pc' := 49) (ls' := [(0, .ref (a0 0)), (2, .int v2), (3, .int v3)]) (st' := [.ref (a0 0)]) (decB_ok (by decide +kernel)) rfl rfl ?_
  refine V_get C (v := .int (h_doors S0)) (by decide +kernel) 0 5 fk_RX1_44 rfl rfl ?_
  refine V_pb C hn [(.iconst 4, 1), (.iand, 1)] (pc' := 54) (ls' := [(0, .ref (a0 0)), (2, .int v2), (3, .int v3)]) (st' := [.int ((h_doors S0) &&& (4 : Int32))]) (decB_ok (by decide +kernel)) rfl rfl ?_
  refine V_if_eq C (off := 10) (tgt := 64) (by decide +kernel) (by decide) h (fun _ h => ?_) (fun _ h => ?_)
  · refine V_sub (ls' := [(0, .ref (a0 0)), (2, .int v2), (3, .int v3)]) rfl ?_
    exact cfX1_pushedByDoors_j64 C hn h
  · refine V_pb C hn [(.iload_n 2, 1)] (pc' := 58) (ls' := [(0, .ref (a0 0)), (2, .int v2), (3, .int v3)]) (st' := [.int v2]) (decB_ok (by decide +kernel)) rfl rfl ?_
    refine V_if_le C (off := 6) (tgt := 64) (by decide +kernel) (by decide) h (fun _ h => ?_) (fun _ h => ?_)
    · refine V_sub (ls' := [(0, .ref (a0 0)), (2, .int v2), (3, .int v3)]) rfl ?_
      exact cfX1_pushedByDoors_j64 C hn h
    · refine V_pb C hn [(.iinc 2 (-1), 3)] (pc' := 64) (ls' := [(0, .ref (a0 0)), (2, .int (v2 + (cI (-1)))), (3, .int v3)]) (st' := []) (decB_ok (by decide +kernel)) rfl rfl ?_
      refine V_sub (ls' := [(0, .ref (a0 0)), (2, .int (v2 + (cI (-1)))), (3, .int v3)]) rfl ?_
      exact cfX1_pushedByDoors_j64 C hn h
set_option maxRecDepth 100000 in
set_option maxHeartbeats 400000 in
theorem cfX1_pushedByDoors_j32 {E : VE} (C : Ctx E cX1_pushedByDoors RX1 0 (some .int)) (hn : E.nL = 4) {a0 : Nat → Nat} {p1 : Int32} {S0 : HallT} {v2 : Int32} {v3 : Int32} {out : Int32} (h : fX1_pushedByDoors_j32 p1 S0 v2 v3 = some out) : V E (QR E (some (.int out)) (wdH E.G a0 S0)) (wdH E.G a0 S0) 32 [(0, .ref (a0 0)), (2, .int v2), (3, .int v3)] [] := by
  unfold fX1_pushedByDoors_j32 at h
  refine V_pb C hn [(.aload_n 0, 1)] (pc' := 33) (ls' := [(0, .ref (a0 0)), (2, .int v2), (3, .int v3)]) (st' := [.ref (a0 0)]) (decB_ok (by decide +kernel)) rfl rfl ?_
  refine V_get C (v := .int (h_doors S0)) (by decide +kernel) 0 5 fk_RX1_44 rfl rfl ?_
  refine V_pb C hn [(.iconst 2, 1), (.iand, 1)] (pc' := 38) (ls' := [(0, .ref (a0 0)), (2, .int v2), (3, .int v3)]) (st' := [.int ((h_doors S0) &&& (2 : Int32))]) (decB_ok (by decide +kernel)) rfl rfl ?_
  refine V_if_eq C (off := 10) (tgt := 48) (by decide +kernel) (by decide) h (fun _ h => ?_) (fun _ h => ?_)
  · refine V_sub (ls' := [(0, .ref (a0 0)), (2, .int v2), (3, .int v3)]) rfl ?_
    exact cfX1_pushedByDoors_j48 C hn h
  · refine V_pb C hn [(.iload_n 3, 1)] (pc' := 42) (ls' := [(0, .ref (a0 0)), (2, .int v2), (3, .int v3)]) (st' := [.int v3]) (decB_ok (by decide +kernel)) rfl rfl ?_
    refine V_if_le C (off := 6) (tgt := 48) (by decide +kernel) (by decide) h (fun _ h => ?_) (fun _ h => ?_)
    · refine V_sub (ls' := [(0, .ref (a0 0)), (2, .int v2), (3, .int v3)]) rfl ?_
      exact cfX1_pushedByDoors_j48 C hn h
    · refine V_pb C hn [(.iinc 3 (-1), 3)] (pc' := 48) (ls' := [(0, .ref (a0 0)), (2, .int v2), (3, .int (v3 + (cI (-1))))]) (st' := []) (decB_ok (by decide +kernel)) rfl rfl ?_
      refine V_sub (ls' := [(0, .ref (a0 0)), (2, .int v2), (3, .int (v3 + (cI (-1))))]) rfl ?_
      exact cfX1_pushedByDoors_j48 C hn h
set_option maxRecDepth 100000 in
set_option maxHeartbeats 400000 in
theorem cfX1_pushedByDoors {l : Launch} {G : GG} (a0 : Nat → Nat) {p1 : Int32} {S0 : HallT} {out : Int32} (h : fX1_pushedByDoors p1 S0 = some out) : Con l G 0 yX1_pushedByDoors cX1_pushedByDoors 4 (some .int) [.ref (a0 0), .int p1] (wdH G a0 S0) (some (.int out)) (wdH G a0 S0) := by
  refine Con_of (by decide +kernel) (Nat.le_of_ble_eq_true rfl) (fun E hl hG hn C => ?_)
  subst hl
  subst hG
  have C : Ctx E cX1_pushedByDoors RX1 0 (some .int) := C
  show V E _ _ 0 [(0, .ref (a0 0)), (1, .int p1)] []
  unfold fX1_pushedByDoors at h
  refine V_pb C hn [(.iload_n 1, 1), (.bipush 10, 2)] (pc' := 3) (ls' := [(0, .ref (a0 0)), (1, .int p1)]) (st' := [.int (10 : Int32), .int p1]) (decB_ok (by decide +kernel)) rfl rfl ?_
  refine V_idiv C (by decide +kernel) (by decide) ?_
  refine V_pb C hn [(.istore_n 2, 1), (.iload_n 1, 1), (.bipush 10, 2)] (pc' := 8) (ls' := [(0, .ref (a0 0)), (1, .int p1), (2, .int (p1 / (10 : Int32)))]) (st' := [.int (10 : Int32), .int p1]) (decB_ok (by decide +kernel)) rfl rfl ?_
  refine V_irem C (by decide +kernel) (by decide) ?_
  refine V_pb C hn [(.istore_n 3, 1), (.aload_n 0, 1)] (pc' := 11) (ls' := [(0, .ref (a0 0)), (1, .int p1), (2, .int (p1 / (10 : Int32))), (3, .int (irm p1 (10 : Int32)))]) (st' := [.ref (a0 0)]) (decB_ok (by decide +kernel)) rfl rfl ?_
  refine V_get C (v := .int (h_doors S0)) (by decide +kernel) 0 5 fk_RX1_44 rfl rfl ?_
  refine V_pb C hn [(.iconst 1, 1), (.iand, 1)] (pc' := 16) (ls' := [(0, .ref (a0 0)), (1, .int p1), (2, .int (p1 / (10 : Int32))), (3, .int (irm p1 (10 : Int32)))]) (st' := [.int ((h_doors S0) &&& (1 : Int32))]) (decB_ok (by decide +kernel)) rfl rfl ?_
  refine V_if_eq C (off := 16) (tgt := 32) (by decide +kernel) (by decide) h (fun _ h => ?_) (fun _ h => ?_)
  · refine V_sub (ls' := [(0, .ref (a0 0)), (2, .int (p1 / (10 : Int32))), (3, .int (irm p1 (10 : Int32)))]) rfl ?_
    exact cfX1_pushedByDoors_j32 C hn h
  · refine V_pb C hn [(.iload_n 2, 1), (.aload_n 0, 1)] (pc' := 21) (ls' := [(0, .ref (a0 0)), (1, .int p1), (2, .int (p1 / (10 : Int32))), (3, .int (irm p1 (10 : Int32)))]) (st' := [.ref (a0 0), .int (p1 / (10 : Int32))]) (decB_ok (by decide +kernel)) rfl rfl ?_
    refine V_get C (v := .int (h_side S0)) (by decide +kernel) 0 0 fk_RX1_9 rfl rfl ?_
    refine V_pb C hn [(.iconst 1, 1), (.isub, 1)] (pc' := 26) (ls' := [(0, .ref (a0 0)), (1, .int p1), (2, .int (p1 / (10 : Int32))), (3, .int (irm p1 (10 : Int32)))]) (st' := [.int ((h_side S0) - (1 : Int32)), .int (p1 / (10 : Int32))]) (decB_ok (by decide +kernel)) rfl rfl ?_
    refine V_ic_ge C (off := 6) (tgt := 32) (by decide +kernel) (by decide) h (fun _ h => ?_) (fun _ h => ?_)
    · refine V_sub (ls' := [(0, .ref (a0 0)), (2, .int (p1 / (10 : Int32))), (3, .int (irm p1 (10 : Int32)))]) rfl ?_
      exact cfX1_pushedByDoors_j32 C hn h
    · refine V_pb C hn [(.iinc 2 1, 3)] (pc' := 32) (ls' := [(0, .ref (a0 0)), (1, .int p1), (2, .int ((p1 / (10 : Int32)) + (1 : Int32))), (3, .int (irm p1 (10 : Int32)))]) (st' := []) (decB_ok (by decide +kernel)) rfl rfl ?_
      refine V_sub (ls' := [(0, .ref (a0 0)), (2, .int ((p1 / (10 : Int32)) + (1 : Int32))), (3, .int (irm p1 (10 : Int32)))]) rfl ?_
      exact cfX1_pushedByDoors_j32 C hn h
set_option maxRecDepth 100000 in
set_option maxHeartbeats 400000 in
theorem cfX1_pushedByFan {l : Launch} {G : GG} (a0 : Nat → Nat) {p1 : Int32} {S0 : HallT} {out : Int32} (h : fX1_pushedByFan p1 S0 = some out) : Con l G 0 yX1_pushedByFan cX1_pushedByFan 4 (some .int) [.ref (a0 0), .int p1] (wdH G a0 S0) (some (.int out)) (wdH G a0 S0) := by
  refine Con_of (by decide +kernel) (Nat.le_of_ble_eq_true rfl) (fun E hl hG hn C => ?_)
  subst hl
  subst hG
  have C : Ctx E cX1_pushedByFan RX1 0 (some .int) := C
  show V E _ _ 0 [(0, .ref (a0 0)), (1, .int p1)] []
  unfold fX1_pushedByFan at h
  refine V_pb C hn [(.iload_n 1, 1), (.bipush 10, 2)] (pc' := 3) (ls' := [(0, .ref (a0 0)), (1, .int p1)]) (st' := [.int (10 : Int32), .int p1]) (decB_ok (by decide +kernel)) rfl rfl ?_
  refine V_idiv C (by decide +kernel) (by decide) ?_
  refine V_pb C hn [(.istore_n 2, 1), (.iload_n 1, 1), (.bipush 10, 2)] (pc' := 8) (ls' := [(0, .ref (a0 0)), (1, .int p1), (2, .int (p1 / (10 : Int32)))]) (st' := [.int (10 : Int32), .int p1]) (decB_ok (by decide +kernel)) rfl rfl ?_
  refine V_irem C (by decide +kernel) (by decide) ?_
  refine V_pb C hn [(.istore_n 3, 1), (.aload_n 0, 1)] (pc' := 11) (ls' := [(0, .ref (a0 0)), (1, .int p1), (2, .int (p1 / (10 : Int32))), (3, .int (irm p1 (10 : Int32)))]) (st' := [.ref (a0 0)]) (decB_ok (by decide +kernel)) rfl rfl ?_
  refine V_get C (v := .int (h_fan S0)) (by decide +kernel) 0 6 fk_RX1_47 rfl rfl ?_
  refine V_sw (1) ?_
  refine Sw_at C (dflt := 92) (lo := 1) (hi := 4) (offs := #[30, 43, 61, 80]) (len := 30) (off := 30) (v := (1 : Int32)) (tgt := 44) (by decide +kernel) (by decide) (by decide) (by decide) rfl (by decide) h (fun _ h => ?_) (fun _ h => ?_)
  · refine V_pb C hn [(.iload_n 2, 1)] (pc' := 45) (ls' := [(0, .ref (a0 0)), (1, .int p1), (2, .int (p1 / (10 : Int32))), (3, .int (irm p1 (10 : Int32)))]) (st' := [.int (p1 / (10 : Int32))]) (decB_ok (by decide +kernel)) rfl rfl ?_
    refine V_if_le C (off := 10) (tgt := 55) (by decide +kernel) (by decide) h (fun _ h => ?_) (fun _ h => ?_)
    · refine V_pb C hn [(.iload_n 1, 1)] (pc' := 56) (ls' := [(0, .ref (a0 0)), (1, .int p1), (2, .int (p1 / (10 : Int32))), (3, .int (irm p1 (10 : Int32)))]) (st' := [.int p1]) (decB_ok (by decide +kernel)) rfl rfl ?_
      have h := Option.some.inj h
      subst h
      exact V_iret C (by decide +kernel) rfl
    · refine V_pb C hn [(.iload_n 1, 1), (.bipush 10, 2), (.isub, 1)] (pc' := 52) (ls' := [(0, .ref (a0 0)), (1, .int p1), (2, .int (p1 / (10 : Int32))), (3, .int (irm p1 (10 : Int32)))]) (st' := [.int (p1 - (10 : Int32))]) (decB_ok (by decide +kernel)) rfl rfl ?_
      refine V_goto C (off := 4) (tgt := 56) (by decide +kernel) (by decide) ?_
      have h := Option.some.inj h
      subst h
      exact V_iret C (by decide +kernel) rfl
  refine Sw_at C (dflt := 92) (lo := 1) (hi := 4) (offs := #[30, 43, 61, 80]) (len := 30) (off := 43) (v := (2 : Int32)) (tgt := 57) (by decide +kernel) (by decide) (by decide) (by decide) rfl (by decide) h (fun _ h => ?_) (fun _ h => ?_)
  · refine V_pb C hn [(.iload_n 3, 1), (.aload_n 0, 1)] (pc' := 59) (ls' := [(0, .ref (a0 0)), (1, .int p1), (2, .int (p1 / (10 : Int32))), (3, .int (irm p1 (10 : Int32)))]) (st' := [.ref (a0 0), .int (irm p1 (10 : Int32))]) (decB_ok (by decide +kernel)) rfl rfl ?_
    refine V_get C (v := .int (h_side S0)) (by decide +kernel) 0 0 fk_RX1_9 rfl rfl ?_
    refine V_pb C hn [(.iconst 1, 1), (.isub, 1)] (pc' := 64) (ls' := [(0, .ref (a0 0)), (1, .int p1), (2, .int (p1 / (10 : Int32))), (3, .int (irm p1 (10 : Int32)))]) (st' := [.int ((h_side S0) - (1 : Int32)), .int (irm p1 (10 : Int32))]) (decB_ok (by decide +kernel)) rfl rfl ?_
    refine V_ic_ge C (off := 9) (tgt := 73) (by decide +kernel) (by decide) h (fun _ h => ?_) (fun _ h => ?_)
    · refine V_pb C hn [(.iload_n 1, 1)] (pc' := 74) (ls' := [(0, .ref (a0 0)), (1, .int p1), (2, .int (p1 / (10 : Int32))), (3, .int (irm p1 (10 : Int32)))]) (st' := [.int p1]) (decB_ok (by decide +kernel)) rfl rfl ?_
      have h := Option.some.inj h
      subst h
      exact V_iret C (by decide +kernel) rfl
    · refine V_pb C hn [(.iload_n 1, 1), (.iconst 1, 1), (.iadd, 1)] (pc' := 70) (ls' := [(0, .ref (a0 0)), (1, .int p1), (2, .int (p1 / (10 : Int32))), (3, .int (irm p1 (10 : Int32)))]) (st' := [.int (p1 + (1 : Int32))]) (decB_ok (by decide +kernel)) rfl rfl ?_
      refine V_goto C (off := 4) (tgt := 74) (by decide +kernel) (by decide) ?_
      have h := Option.some.inj h
      subst h
      exact V_iret C (by decide +kernel) rfl
  refine Sw_at C (dflt := 92) (lo := 1) (hi := 4) (offs := #[30, 43, 61, 80]) (len := 30) (off := 61) (v := (3 : Int32)) (tgt := 75) (by decide +kernel) (by decide) (by decide) (by decide) rfl (by decide) h (fun _ h => ?_) (fun _ h => ?_)
  · refine V_pb C hn [(.iload_n 2, 1), (.aload_n 0, 1)] (pc' := 77) (ls' := [(0, .ref (a0 0)), (1, .int p1), (2, .int (p1 / (10 : Int32))), (3, .int (irm p1 (10 : Int32)))]) (st' := [.ref (a0 0), .int (p1 / (10 : Int32))]) (decB_ok (by decide +kernel)) rfl rfl ?_
    refine V_get C (v := .int (h_side S0)) (by decide +kernel) 0 0 fk_RX1_9 rfl rfl ?_
    refine V_pb C hn [(.iconst 1, 1), (.isub, 1)] (pc' := 82) (ls' := [(0, .ref (a0 0)), (1, .int p1), (2, .int (p1 / (10 : Int32))), (3, .int (irm p1 (10 : Int32)))]) (st' := [.int ((h_side S0) - (1 : Int32)), .int (p1 / (10 : Int32))]) (decB_ok (by decide +kernel)) rfl rfl ?_
    refine V_ic_ge C (off := 10) (tgt := 92) (by decide +kernel) (by decide) h (fun _ h => ?_) (fun _ h => ?_)
    · refine V_pb C hn [(.iload_n 1, 1)] (pc' := 93) (ls' := [(0, .ref (a0 0)), (1, .int p1), (2, .int (p1 / (10 : Int32))), (3, .int (irm p1 (10 : Int32)))]) (st' := [.int p1]) (decB_ok (by decide +kernel)) rfl rfl ?_
      have h := Option.some.inj h
      subst h
      exact V_iret C (by decide +kernel) rfl
    · refine V_pb C hn [(.iload_n 1, 1), (.bipush 10, 2), (.iadd, 1)] (pc' := 89) (ls' := [(0, .ref (a0 0)), (1, .int p1), (2, .int (p1 / (10 : Int32))), (3, .int (irm p1 (10 : Int32)))]) (st' := [.int (p1 + (10 : Int32))]) (decB_ok (by decide +kernel)) rfl rfl ?_
      refine V_goto C (off := 4) (tgt := 93) (by decide +kernel) (by decide) ?_
      have h := Option.some.inj h
      subst h
      exact V_iret C (by decide +kernel) rfl
  refine Sw_at C (dflt := 92) (lo := 1) (hi := 4) (offs := #[30, 43, 61, 80]) (len := 30) (off := 80) (v := (4 : Int32)) (tgt := 94) (by decide +kernel) (by decide) (by decide) (by decide) rfl (by decide) h (fun _ h => ?_) (fun _ h => ?_)
  · refine V_pb C hn [(.iload_n 3, 1)] (pc' := 95) (ls' := [(0, .ref (a0 0)), (1, .int p1), (2, .int (p1 / (10 : Int32))), (3, .int (irm p1 (10 : Int32)))]) (st' := [.int (irm p1 (10 : Int32))]) (decB_ok (by decide +kernel)) rfl rfl ?_
    refine V_if_le C (off := 9) (tgt := 104) (by decide +kernel) (by decide) h (fun _ h => ?_) (fun _ h => ?_)
    · refine V_pb C hn [(.iload_n 1, 1)] (pc' := 105) (ls' := [(0, .ref (a0 0)), (1, .int p1), (2, .int (p1 / (10 : Int32))), (3, .int (irm p1 (10 : Int32)))]) (st' := [.int p1]) (decB_ok (by decide +kernel)) rfl rfl ?_
      have h := Option.some.inj h
      subst h
      exact V_iret C (by decide +kernel) rfl
    · refine V_pb C hn [(.iload_n 1, 1), (.iconst 1, 1), (.isub, 1)] (pc' := 101) (ls' := [(0, .ref (a0 0)), (1, .int p1), (2, .int (p1 / (10 : Int32))), (3, .int (irm p1 (10 : Int32)))]) (st' := [.int (p1 - (1 : Int32))]) (decB_ok (by decide +kernel)) rfl rfl ?_
      refine V_goto C (off := 4) (tgt := 105) (by decide +kernel) (by decide) ?_
      have h := Option.some.inj h
      subst h
      exact V_iret C (by decide +kernel) rfl
  refine Sw_end C (dflt := 92) (lo := 1) (hi := 4) (offs := #[30, 43, 61, 80]) (len := 30) (tgt := 106) (by decide +kernel) (by decide) (by decide) ?_
  refine V_pb C hn [(.iload_n 1, 1)] (pc' := 107) (ls' := [(0, .ref (a0 0)), (1, .int p1), (2, .int (p1 / (10 : Int32))), (3, .int (irm p1 (10 : Int32)))]) (st' := [.int p1]) (decB_ok (by decide +kernel)) rfl rfl ?_
  have h := Option.some.inj h
  subst h
  exact V_iret C (by decide +kernel) rfl
set_option maxRecDepth 100000 in
set_option maxHeartbeats 400000 in
theorem cfX1_nextOfHeavy {l : Launch} {G : GG} (a0 : Nat → Nat) {p1 : Int32} {S0 : HallT} {out : Int32} (h : fX1_nextOfHeavy p1 S0 = some out) : Con l G 1 yX1_nextOfHeavy cX1_nextOfHeavy 2 (some .int) [.ref (a0 0), .int p1] (wdH G a0 S0) (some (.int out)) (wdH G a0 S0) := by
  refine Con_of (by decide +kernel) (Nat.le_of_ble_eq_true rfl) (fun E hl hG hn C => ?_)
  subst hl
  subst hG
  have C : Ctx E cX1_nextOfHeavy RX1 1 (some .int) := C
  show V E _ _ 0 [(0, .ref (a0 0)), (1, .int p1)] []
  unfold fX1_nextOfHeavy at h
  refine V_pb C hn [(.aload_n 0, 1)] (pc' := 1) (ls' := [(0, .ref (a0 0)), (1, .int p1)]) (st' := [.ref (a0 0)]) (decB_ok (by decide +kernel)) rfl rfl ?_
  refine V_get C (v := .int (h_hour S0)) (by decide +kernel) 0 8 fk_RX1_56 rfl rfl ?_
  refine V_pb C hn [(.iconst 1, 1), (.iand, 1), (.iconst 1, 1)] (pc' := 7) (ls' := [(0, .ref (a0 0)), (1, .int p1)]) (st' := [.int (1 : Int32), .int ((h_hour S0) &&& (1 : Int32))]) (decB_ok (by decide +kernel)) rfl rfl ?_
  refine V_ic_ne C (off := 15) (tgt := 22) (by decide +kernel) (by decide) h (fun _ h => ?_) (fun _ h => ?_)
  · refine V_pb C hn [(.aload_n 0, 1), (.aload_n 0, 1), (.iload_n 1, 1)] (pc' := 13) (ls' := [(0, .ref (a0 0)), (1, .int p1)]) (st' := [.int p1, .ref (a0 0), .ref (a0 0)]) (decB_ok (by decide +kernel)) rfl rfl ?_
    obtain ⟨q1, h2, h⟩ := bnd h
    refine V_callV0 C (As := [.int p1]) (rest := [.ref (a0 0)]) (by decide +kernel) ok_yX1_pushedByDoors mk_RX1_110 (cfX1_pushedByDoors (l := E.l) (G := E.G) a0 h2) (q0 := 0) rfl rfl rfl rfl rfl rfl (Nat.le_of_ble_eq_true rfl) (Nat.le_of_ble_eq_true rfl) (Nat.le_of_ble_eq_true rfl) ?_
    show V E _ (wdH E.G a0 S0) 16 [(0, .ref (a0 0)), (1, .int p1)] [.int q1, .ref (a0 0)]
    obtain ⟨q3, h4, h⟩ := bnd h
    refine V_callV0 C (As := [.int q1]) (rest := []) (by decide +kernel) ok_yX1_pushedByFan mk_RX1_113 (cfX1_pushedByFan (l := E.l) (G := E.G) a0 h4) (q0 := 0) rfl rfl rfl rfl rfl rfl (Nat.le_of_ble_eq_true rfl) (Nat.le_of_ble_eq_true rfl) (Nat.le_of_ble_eq_true rfl) ?_
    show V E _ (wdH E.G a0 S0) 19 [(0, .ref (a0 0)), (1, .int p1)] [.int q3]
    refine V_goto C (off := 4) (tgt := 23) (by decide +kernel) (by decide) ?_
    have h := Option.some.inj h
    subst h
    exact V_iret C (by decide +kernel) rfl
  · refine V_pb C hn [(.iload_n 1, 1)] (pc' := 23) (ls' := [(0, .ref (a0 0)), (1, .int p1)]) (st' := [.int p1]) (decB_ok (by decide +kernel)) rfl rfl ?_
    have h := Option.some.inj h
    subst h
    exact V_iret C (by decide +kernel) rfl
set_option maxRecDepth 100000 in
set_option maxHeartbeats 400000 in
theorem cfX1_lowered {l : Launch} {G : GG} (a0 : Nat → Nat) {p1 : Int32} {S0 : HallT} {out : Int32} (h : fX1_lowered p1 S0 = some out) : Con l G 0 yX1_lowered cX1_lowered 2 (some .int) [.ref (a0 0), .int p1] (wdH G a0 S0) (some (.int out)) (wdH G a0 S0) := by
  refine Con_of (by decide +kernel) (Nat.le_of_ble_eq_true rfl) (fun E hl hG hn C => ?_)
  subst hl
  subst hG
  have C : Ctx E cX1_lowered RX1 0 (some .int) := C
  show V E _ _ 0 [(0, .ref (a0 0)), (1, .int p1)] []
  unfold fX1_lowered at h
  refine V_pb C hn [(.iload_n 1, 1), (.bipush 10, 2)] (pc' := 3) (ls' := [(0, .ref (a0 0)), (1, .int p1)]) (st' := [.int (10 : Int32), .int p1]) (decB_ok (by decide +kernel)) rfl rfl ?_
  refine V_idiv C (by decide +kernel) (by decide) ?_
  refine V_pb C hn [(.aload_n 0, 1)] (pc' := 5) (ls' := [(0, .ref (a0 0)), (1, .int p1)]) (st' := [.ref (a0 0), .int (p1 / (10 : Int32))]) (decB_ok (by decide +kernel)) rfl rfl ?_
  refine V_get C (v := .int (h_side S0)) (by decide +kernel) 0 0 fk_RX1_9 rfl rfl ?_
  refine V_pb C hn [(.iconst 1, 1), (.isub, 1)] (pc' := 10) (ls' := [(0, .ref (a0 0)), (1, .int p1)]) (st' := [.int ((h_side S0) - (1 : Int32)), .int (p1 / (10 : Int32))]) (decB_ok (by decide +kernel)) rfl rfl ?_
  refine V_ic_ge C (off := 10) (tgt := 20) (by decide +kernel) (by decide) h (fun _ h => ?_) (fun _ h => ?_)
  · refine V_pb C hn [(.iload_n 1, 1)] (pc' := 21) (ls' := [(0, .ref (a0 0)), (1, .int p1)]) (st' := [.int p1]) (decB_ok (by decide +kernel)) rfl rfl ?_
    have h := Option.some.inj h
    subst h
    exact V_iret C (by decide +kernel) rfl
  · refine V_pb C hn [(.iload_n 1, 1), (.bipush 10, 2), (.iadd, 1)] (pc' := 17) (ls' := [(0, .ref (a0 0)), (1, .int p1)]) (st' := [.int (p1 + (10 : Int32))]) (decB_ok (by decide +kernel)) rfl rfl ?_
    refine V_goto C (off := 4) (tgt := 21) (by decide +kernel) (by decide) ?_
    have h := Option.some.inj h
    subst h
    exact V_iret C (by decide +kernel) rfl
set_option maxRecDepth 100000 in
set_option maxHeartbeats 400000 in
theorem cfX1_beamColumn {l : Launch} {G : GG} (a0 : Nat → Nat) {p1 : Int32} {S0 : HallT} {out : Int32} (h : fX1_beamColumn p1 S0 = some out) : Con l G 0 yX1_beamColumn cX1_beamColumn 2 (some .int) [.ref (a0 0), .int p1] (wdH G a0 S0) (some (.int out)) (wdH G a0 S0) := by
  refine Con_of (by decide +kernel) (Nat.le_of_ble_eq_true rfl) (fun E hl hG hn C => ?_)
  subst hl
  subst hG
  have C : Ctx E cX1_beamColumn RX1 0 (some .int) := C
  show V E _ _ 0 [(0, .ref (a0 0)), (1, .int p1)] []
  unfold fX1_beamColumn at h
  refine V_pb C hn [(.aload_n 0, 1)] (pc' := 1) (ls' := [(0, .ref (a0 0)), (1, .int p1)]) (st' := [.ref (a0 0)]) (decB_ok (by decide +kernel)) rfl rfl ?_
  refine V_get C (v := .int (h_side S0)) (by decide +kernel) 0 0 fk_RX1_9 rfl rfl ?_
  refine V_if_le C (off := 22) (tgt := 26) (by decide +kernel) (by decide) h (fun _ h => ?_) (fun _ h => ?_)
  · refine V_pb C hn [(.iconst 0, 1)] (pc' := 27) (ls' := [(0, .ref (a0 0)), (1, .int p1)]) (st' := [.int (0 : Int32)]) (decB_ok (by decide +kernel)) rfl rfl ?_
    have h := Option.some.inj h
    subst h
    exact V_iret C (by decide +kernel) rfl
  · refine V_pb C hn [(.aload_n 0, 1)] (pc' := 8) (ls' := [(0, .ref (a0 0)), (1, .int p1)]) (st' := [.ref (a0 0)]) (decB_ok (by decide +kernel)) rfl rfl ?_
    refine V_get C (v := .int (h_hour S0)) (by decide +kernel) 0 8 fk_RX1_56 rfl rfl ?_
    refine V_pb C hn [(.aload_n 0, 1)] (pc' := 12) (ls' := [(0, .ref (a0 0)), (1, .int p1)]) (st' := [.ref (a0 0), .int (h_hour S0)]) (decB_ok (by decide +kernel)) rfl rfl ?_
    refine V_get C (v := .int (h_beam S0)) (by decide +kernel) 0 9 fk_RX1_53 rfl rfl ?_
    refine V_pb C hn [(.iadd, 1), (.iload_n 1, 1), (.iadd, 1), (.aload_n 0, 1)] (pc' := 19) (ls' := [(0, .ref (a0 0)), (1, .int p1)]) (st' := [.ref (a0 0), .int (((h_hour S0) + (h_beam S0)) + p1)]) (decB_ok (by decide +kernel)) rfl rfl ?_
    refine V_get C (v := .int (h_side S0)) (by decide +kernel) 0 0 fk_RX1_9 rfl rfl ?_
    obtain ⟨hd1, h⟩ := dv_some h
    refine V_irem C (by decide +kernel) hd1 ?_
    refine V_goto C (off := 4) (tgt := 27) (by decide +kernel) (by decide) ?_
    have h := Option.some.inj h
    subst h
    exact V_iret C (by decide +kernel) rfl
set_option maxRecDepth 100000 in
set_option maxHeartbeats 400000 in
theorem cfX1_isLit {l : Launch} {G : GG} (a0 : Nat → Nat) {p1 : Int32} {S0 : HallT} {out : Int32} (h : fX1_isLit p1 S0 = some out) : Con l G 1 yX1_isLit cX1_isLit 2 (some .boolean) [.ref (a0 0), .int p1] (wdH G a0 S0) (some (.int out)) (wdH G a0 S0) := by
  refine Con_of (by decide +kernel) (Nat.le_of_ble_eq_true rfl) (fun E hl hG hn C => ?_)
  subst hl
  subst hG
  have C : Ctx E cX1_isLit RX1 1 (some .boolean) := C
  show V E _ _ 0 [(0, .ref (a0 0)), (1, .int p1)] []
  unfold fX1_isLit at h
  refine V_pb C hn [(.iload_n 1, 1), (.bipush 10, 2)] (pc' := 3) (ls' := [(0, .ref (a0 0)), (1, .int p1)]) (st' := [.int (10 : Int32), .int p1]) (decB_ok (by decide +kernel)) rfl rfl ?_
  refine V_irem C (by decide +kernel) (by decide) ?_
  refine V_pb C hn [(.aload_n 0, 1), (.iload_n 1, 1), (.bipush 10, 2)] (pc' := 8) (ls' := [(0, .ref (a0 0)), (1, .int p1)]) (st' := [.int (10 : Int32), .int p1, .ref (a0 0), .int (irm p1 (10 : Int32))]) (decB_ok (by decide +kernel)) rfl rfl ?_
  refine V_idiv C (by decide +kernel) (by decide) ?_
  obtain ⟨q1, h2, h⟩ := bnd h
  refine V_callV0 C (As := [.int (p1 / (10 : Int32))]) (rest := [.int (irm p1 (10 : Int32))]) (by decide +kernel) ok_yX1_beamColumn mk_RX1_116 (cfX1_beamColumn (l := E.l) (G := E.G) a0 h2) (q0 := 0) rfl rfl rfl rfl rfl rfl (Nat.le_of_ble_eq_true rfl) (Nat.le_of_ble_eq_true rfl) (Nat.le_of_ble_eq_true rfl) ?_
  show V E _ (wdH E.G a0 S0) 12 [(0, .ref (a0 0)), (1, .int p1)] [.int q1, .int (irm p1 (10 : Int32))]
  refine V_ic_ne C (off := 7) (tgt := 19) (by decide +kernel) (by decide) h (fun _ h => ?_) (fun _ h => ?_)
  · refine V_pb C hn [(.iconst 1, 1)] (pc' := 16) (ls' := [(0, .ref (a0 0)), (1, .int p1)]) (st' := [.int (1 : Int32)]) (decB_ok (by decide +kernel)) rfl rfl ?_
    refine V_goto C (off := 4) (tgt := 20) (by decide +kernel) (by decide) ?_
    have h := Option.some.inj h
    subst h
    exact V_iret C (v := (1 : Int32)) (by decide +kernel) nb1
  · refine V_pb C hn [(.iconst 0, 1)] (pc' := 20) (ls' := [(0, .ref (a0 0)), (1, .int p1)]) (st' := [.int (0 : Int32)]) (decB_ok (by decide +kernel)) rfl rfl ?_
    have h := Option.some.inj h
    subst h
    exact V_iret C (v := (0 : Int32)) (by decide +kernel) nb0
set_option maxRecDepth 100000 in
set_option maxHeartbeats 400000 in
theorem cfX1_nextOfMote_j32 {E : VE} (C : Ctx E cX1_nextOfMote RX1 1 (some .int)) (hn : E.nL = 4) {a0 : Nat → Nat} {p1 : Int32} {S0 : HallT} {v2 : Int32} {s0 : Int32} {out : Int32} (h : fX1_nextOfMote_j32 p1 S0 v2 s0 = some out) : V E (QR E (some (.int out)) (wdH E.G a0 S0)) (wdH E.G a0 S0) 32 [(2, .int v2)] [.int s0] := by
  unfold fX1_nextOfMote_j32 at h
  refine V_pb C hn [(.istore_n 3, 1), (.iload_n 3, 1)] (pc' := 34) (ls' := [(2, .int v2), (3, .int s0)]) (st' := [.int s0]) (decB_ok (by decide +kernel)) rfl rfl ?_
  refine V_if_eq C (off := 17) (tgt := 51) (by decide +kernel) (by decide) h (fun _ h => ?_) (fun _ h => ?_)
  · refine V_pb C hn [(.iload_n 2, 1)] (pc' := 52) (ls' := [(2, .int v2), (3, .int s0)]) (st' := [.int v2]) (decB_ok (by decide +kernel)) rfl rfl ?_
    have h := Option.some.inj h
    subst h
    exact V_iret C (by decide +kernel) rfl
  · refine V_pb C hn [(.iload_n 2, 1), (.bipush 10, 2)] (pc' := 40) (ls' := [(2, .int v2), (3, .int s0)]) (st' := [.int (10 : Int32), .int v2]) (decB_ok (by decide +kernel)) rfl rfl ?_
    refine V_idiv C (by decide +kernel) (by decide) ?_
    refine V_if_le C (off := 10) (tgt := 51) (by decide +kernel) (by decide) h (fun _ h => ?_) (fun _ h => ?_)
    · refine V_pb C hn [(.iload_n 2, 1)] (pc' := 52) (ls' := [(2, .int v2), (3, .int s0)]) (st' := [.int v2]) (decB_ok (by decide +kernel)) rfl rfl ?_
      have h := Option.some.inj h
      subst h
      exact V_iret C (by decide +kernel) rfl
    · refine V_pb C hn [(.iload_n 2, 1), (.bipush 10, 2), (.isub, 1)] (pc' := 48) (ls' := [(2, .int v2), (3, .int s0)]) (st' := [.int (v2 - (10 : Int32))]) (decB_ok (by decide +kernel)) rfl rfl ?_
      refine V_goto C (off := 4) (tgt := 52) (by decide +kernel) (by decide) ?_
      have h := Option.some.inj h
      subst h
      exact V_iret C (by decide +kernel) rfl
set_option maxRecDepth 100000 in
set_option maxHeartbeats 400000 in
theorem cfX1_nextOfMote_j31 {E : VE} (C : Ctx E cX1_nextOfMote RX1 1 (some .int)) (hn : E.nL = 4) {a0 : Nat → Nat} {p1 : Int32} {S0 : HallT} {v2 : Int32} {out : Int32} (h : fX1_nextOfMote_j31 p1 S0 v2 = some out) : V E (QR E (some (.int out)) (wdH E.G a0 S0)) (wdH E.G a0 S0) 31 [(2, .int v2)] [] := by
  unfold fX1_nextOfMote_j31 at h
  refine V_pb C hn [(.iconst 0, 1)] (pc' := 32) (ls' := [(2, .int v2)]) (st' := [.int (0 : Int32)]) (decB_ok (by decide +kernel)) rfl rfl ?_
  refine V_sub (ls' := [(2, .int v2)]) rfl ?_
  exact cfX1_nextOfMote_j32 C hn h
set_option maxRecDepth 100000 in
set_option maxHeartbeats 400000 in
theorem cfX1_nextOfMote {l : Launch} {G : GG} (a0 : Nat → Nat) {p1 : Int32} {S0 : HallT} {out : Int32} (h : fX1_nextOfMote p1 S0 = some out) : Con l G 1 yX1_nextOfMote cX1_nextOfMote 4 (some .int) [.ref (a0 0), .int p1] (wdH G a0 S0) (some (.int out)) (wdH G a0 S0) := by
  refine Con_of (by decide +kernel) (Nat.le_of_ble_eq_true rfl) (fun E hl hG hn C => ?_)
  subst hl
  subst hG
  have C : Ctx E cX1_nextOfMote RX1 1 (some .int) := C
  show V E _ _ 0 [(0, .ref (a0 0)), (1, .int p1)] []
  unfold fX1_nextOfMote at h
  refine V_pb C hn [(.aload_n 0, 1), (.aload_n 0, 1), (.iload_n 1, 1)] (pc' := 3) (ls' := [(0, .ref (a0 0)), (1, .int p1)]) (st' := [.int p1, .ref (a0 0), .ref (a0 0)]) (decB_ok (by decide +kernel)) rfl rfl ?_
  obtain ⟨q1, h2, h⟩ := bnd h
  refine V_callV0 C (As := [.int p1]) (rest := [.ref (a0 0)]) (by decide +kernel) ok_yX1_pushedByDoors mk_RX1_110 (cfX1_pushedByDoors (l := E.l) (G := E.G) a0 h2) (q0 := 0) rfl rfl rfl rfl rfl rfl (Nat.le_of_ble_eq_true rfl) (Nat.le_of_ble_eq_true rfl) (Nat.le_of_ble_eq_true rfl) ?_
  show V E _ (wdH E.G a0 S0) 6 [(0, .ref (a0 0)), (1, .int p1)] [.int q1, .ref (a0 0)]
  obtain ⟨q3, h4, h⟩ := bnd h
  refine V_callV0 C (As := [.int q1]) (rest := []) (by decide +kernel) ok_yX1_pushedByFan mk_RX1_113 (cfX1_pushedByFan (l := E.l) (G := E.G) a0 h4) (q0 := 0) rfl rfl rfl rfl rfl rfl (Nat.le_of_ble_eq_true rfl) (Nat.le_of_ble_eq_true rfl) (Nat.le_of_ble_eq_true rfl) ?_
  show V E _ (wdH E.G a0 S0) 9 [(0, .ref (a0 0)), (1, .int p1)] [.int q3]
  refine V_pb C hn [(.istore_n 2, 1), (.aload_n 0, 1)] (pc' := 11) (ls' := [(0, .ref (a0 0)), (1, .int p1), (2, .int q3)]) (st' := [.ref (a0 0)]) (decB_ok (by decide +kernel)) rfl rfl ?_
  refine V_get C (v := .int (h_warmth S0)) (by decide +kernel) 0 7 fk_RX1_50 rfl rfl ?_
  refine V_pb C hn [(.iconst 5, 1)] (pc' := 15) (ls' := [(0, .ref (a0 0)), (1, .int p1), (2, .int q3)]) (st' := [.int (5 : Int32), .int (h_warmth S0)]) (decB_ok (by decide +kernel)) rfl rfl ?_
  refine V_ic_lt C (off := 16) (tgt := 31) (by decide +kernel) (by decide) h (fun _ h => ?_) (fun _ h => ?_)
  · refine V_sub (ls' := [(2, .int q3)]) rfl ?_
    exact cfX1_nextOfMote_j31 C hn h
  · refine V_pb C hn [(.aload_n 0, 1)] (pc' := 19) (ls' := [(0, .ref (a0 0)), (1, .int p1), (2, .int q3)]) (st' := [.ref (a0 0)]) (decB_ok (by decide +kernel)) rfl rfl ?_
    refine V_get C (v := .int (h_hour S0)) (by decide +kernel) 0 8 fk_RX1_56 rfl rfl ?_
    refine V_pb C hn [(.iconst 1, 1), (.iand, 1)] (pc' := 24) (ls' := [(0, .ref (a0 0)), (1, .int p1), (2, .int q3)]) (st' := [.int ((h_hour S0) &&& (1 : Int32))]) (decB_ok (by decide +kernel)) rfl rfl ?_
    refine V_if_ne C (off := 7) (tgt := 31) (by decide +kernel) (by decide) h (fun _ h => ?_) (fun _ h => ?_)
    · refine V_pb C hn [(.iconst 1, 1)] (pc' := 28) (ls' := [(0, .ref (a0 0)), (1, .int p1), (2, .int q3)]) (st' := [.int (1 : Int32)]) (decB_ok (by decide +kernel)) rfl rfl ?_
      refine V_goto C (off := 4) (tgt := 32) (by decide +kernel) (by decide) ?_
      refine V_sub (ls' := [(2, .int q3)]) rfl ?_
      exact cfX1_nextOfMote_j32 C hn h
    · refine V_sub (ls' := [(2, .int q3)]) rfl ?_
      exact cfX1_nextOfMote_j31 C hn h
set_option maxRecDepth 100000 in
set_option maxHeartbeats 400000 in
theorem cfX1_towardsBeam {l : Launch} {G : GG} (a0 : Nat → Nat) {p1 : Int32} {S0 : HallT} {out : Int32} (h : fX1_towardsBeam p1 S0 = some out) : Con l G 1 yX1_towardsBeam cX1_towardsBeam 2 (some .int) [.ref (a0 0), .int p1] (wdH G a0 S0) (some (.int out)) (wdH G a0 S0) := by
  refine Con_of (by decide +kernel) (Nat.le_of_ble_eq_true rfl) (fun E hl hG hn C => ?_)
  subst hl
  subst hG
  have C : Ctx E cX1_towardsBeam RX1 1 (some .int) := C
  show V E _ _ 0 [(0, .ref (a0 0)), (1, .int p1)] []
  unfold fX1_towardsBeam at h
  refine V_pb C hn [(.iload_n 1, 1), (.aload_n 0, 1), (.iload_n 1, 1), (.bipush 10, 2)] (pc' := 5) (ls' := [(0, .ref (a0 0)), (1, .int p1)]) (st' := [.int (10 : Int32), .int p1, .ref (a0 0), .int p1]) (decB_ok (by decide +kernel)) rfl rfl ?_
  refine V_idiv C (by decide +kernel) (by decide) ?_
  obtain ⟨q1, h2, h⟩ := bnd h
  refine V_callV0 C (As := [.int (p1 / (10 : Int32))]) (rest := [.int p1]) (by decide +kernel) ok_yX1_beamColumn mk_RX1_116 (cfX1_beamColumn (l := E.l) (G := E.G) a0 h2) (q0 := 0) rfl rfl rfl rfl rfl rfl (Nat.le_of_ble_eq_true rfl) (Nat.le_of_ble_eq_true rfl) (Nat.le_of_ble_eq_true rfl) ?_
  show V E _ (wdH E.G a0 S0) 9 [(0, .ref (a0 0)), (1, .int p1)] [.int q1, .int p1]
  refine V_pb C hn [(.iload_n 1, 1), (.bipush 10, 2)] (pc' := 12) (ls' := [(0, .ref (a0 0)), (1, .int p1)]) (st' := [.int (10 : Int32), .int p1, .int q1, .int p1]) (decB_ok (by decide +kernel)) rfl rfl ?_
  refine V_irem C (by decide +kernel) (by decide) ?_
  obtain ⟨q3, h4, h⟩ := bnd h
  refine V_callSp C (As := [.int q1, .int (irm p1 (10 : Int32))]) (rest := [.int p1]) (by decide +kernel) ok_yJ6_compare_7cf53 mk_RX1_119 (cfJ6_compare_7cf53 (l := E.l) (G := E.G) h4) [] rfl rfl rfl rfl (Nat.le_of_ble_eq_true rfl) (Nat.le_of_ble_eq_true rfl) (Nat.le_of_ble_eq_true rfl) ?_
  show V E _ (wdH E.G a0 S0) 16 [(0, .ref (a0 0)), (1, .int p1)] [.int q3, .int p1]
  refine V_pb C hn [(.iadd, 1)] (pc' := 17) (ls' := [(0, .ref (a0 0)), (1, .int p1)]) (st' := [.int (p1 + q3)]) (decB_ok (by decide +kernel)) rfl rfl ?_
  have h := Option.some.inj h
  subst h
  exact V_iret C (by decide +kernel) rfl
set_option maxRecDepth 100000 in
set_option maxHeartbeats 400000 in
theorem cfX1_next {l : Launch} {G : GG} (a0 : Nat → Nat) {p1 : Int32} {p2 : Int32} {S0 : HallT} {out : Int32} (h : fX1_next p1 p2 S0 = some out) : Con l G 2 yX1_next cX1_next 3 (some .int) [.ref (a0 0), .int p1, .int p2] (wdH G a0 S0) (some (.int out)) (wdH G a0 S0) := by
  refine Con_of (by decide +kernel) (Nat.le_of_ble_eq_true rfl) (fun E hl hG hn C => ?_)
  subst hl
  subst hG
  have C : Ctx E cX1_next RX1 2 (some .int) := C
  show V E _ _ 0 [(0, .ref (a0 0)), (1, .int p1), (2, .int p2)] []
  unfold fX1_next at h
  refine V_pb C hn [(.iload_n 1, 1)] (pc' := 1) (ls' := [(0, .ref (a0 0)), (1, .int p1), (2, .int p2)]) (st' := [.int p1]) (decB_ok (by decide +kernel)) rfl rfl ?_
  refine V_sw (1) ?_
  refine Sw_at C (dflt := 97) (lo := 1) (hi := 5) (offs := #[35, 51, 41, 69, 91]) (len := 35) (off := 35) (v := (1 : Int32)) (tgt := 36) (by decide +kernel) (by decide) (by decide) (by decide) rfl (by decide) h (fun _ h => ?_) (fun _ h => ?_)
  · refine V_pb C hn [(.aload_n 0, 1), (.iload_n 2, 1)] (pc' := 38) (ls' := [(0, .ref (a0 0)), (1, .int p1), (2, .int p2)]) (st' := [.int p2, .ref (a0 0)]) (decB_ok (by decide +kernel)) rfl rfl ?_
    obtain ⟨q1, h2, h⟩ := bnd h
    refine V_callV0 C (As := [.int p2]) (rest := []) (by decide +kernel) ok_yX1_nextOfHeavy mk_RX1_94 (cfX1_nextOfHeavy (l := E.l) (G := E.G) a0 h2) (q0 := 0) rfl rfl rfl rfl rfl rfl (Nat.le_of_ble_eq_true rfl) (Nat.le_of_ble_eq_true rfl) (Nat.le_of_ble_eq_true rfl) ?_
    show V E _ (wdH E.G a0 S0) 41 [(0, .ref (a0 0)), (1, .int p1), (2, .int p2)] [.int q1]
    have h := Option.some.inj h
    subst h
    exact V_iret C (by decide +kernel) rfl
  refine Sw_at C (dflt := 97) (lo := 1) (hi := 5) (offs := #[35, 51, 41, 69, 91]) (len := 35) (off := 51) (v := (2 : Int32)) (tgt := 52) (by decide +kernel) (by decide) (by decide) (by decide) rfl (by decide) h (fun _ h => ?_) (fun _ h => ?_)
  · refine V_pb C hn [(.aload_n 0, 1), (.iload_n 2, 1)] (pc' := 54) (ls' := [(0, .ref (a0 0)), (1, .int p1), (2, .int p2)]) (st' := [.int p2, .ref (a0 0)]) (decB_ok (by decide +kernel)) rfl rfl ?_
    obtain ⟨q3, h4, h⟩ := bnd h
    refine V_callV0 C (As := [.int p2]) (rest := []) (by decide +kernel) ok_yX1_isLit mk_RX1_100 (cfX1_isLit (l := E.l) (G := E.G) a0 h4) (q0 := 0) rfl rfl rfl rfl rfl rfl (Nat.le_of_ble_eq_true rfl) (Nat.le_of_ble_eq_true rfl) (Nat.le_of_ble_eq_true rfl) ?_
    show V E _ (wdH E.G a0 S0) 57 [(0, .ref (a0 0)), (1, .int p1), (2, .int p2)] [.int q3]
    refine V_if_eq C (off := 7) (tgt := 64) (by decide +kernel) (by decide) h (fun _ h => ?_) (fun _ h => ?_)
    · refine V_pb C hn [(.aload_n 0, 1), (.iload_n 2, 1)] (pc' := 66) (ls' := [(0, .ref (a0 0)), (1, .int p1), (2, .int p2)]) (st' := [.int p2, .ref (a0 0)]) (decB_ok (by decide +kernel)) rfl rfl ?_
      obtain ⟨q5, h6, h⟩ := bnd h
      refine V_callV0 C (As := [.int p2]) (rest := []) (by decide +kernel) ok_yX1_nextOfMote mk_RX1_104 (cfX1_nextOfMote (l := E.l) (G := E.G) a0 h6) (q0 := 0) rfl rfl rfl rfl rfl rfl (Nat.le_of_ble_eq_true rfl) (Nat.le_of_ble_eq_true rfl) (Nat.le_of_ble_eq_true rfl) ?_
      show V E _ (wdH E.G a0 S0) 69 [(0, .ref (a0 0)), (1, .int p1), (2, .int p2)] [.int q5]
      have h := Option.some.inj h
      subst h
      exact V_iret C (by decide +kernel) rfl
    · refine V_pb C hn [(.iload_n 2, 1)] (pc' := 61) (ls' := [(0, .ref (a0 0)), (1, .int p1), (2, .int p2)]) (st' := [.int p2]) (decB_ok (by decide +kernel)) rfl rfl ?_
      refine V_goto C (off := 8) (tgt := 69) (by decide +kernel) (by decide) ?_
      have h := Option.some.inj h
      subst h
      exact V_iret C (by decide +kernel) rfl
  refine Sw_at C (dflt := 97) (lo := 1) (hi := 5) (offs := #[35, 51, 41, 69, 91]) (len := 35) (off := 41) (v := (3 : Int32)) (tgt := 42) (by decide +kernel) (by decide) (by decide) (by decide) rfl (by decide) h (fun _ h => ?_) (fun _ h => ?_)
  · refine V_pb C hn [(.aload_n 0, 1), (.aload_n 0, 1), (.iload_n 2, 1)] (pc' := 45) (ls' := [(0, .ref (a0 0)), (1, .int p1), (2, .int p2)]) (st' := [.int p2, .ref (a0 0), .ref (a0 0)]) (decB_ok (by decide +kernel)) rfl rfl ?_
    obtain ⟨q7, h8, h⟩ := bnd h
    refine V_callV0 C (As := [.int p2]) (rest := [.ref (a0 0)]) (by decide +kernel) ok_yX1_nextOfHeavy mk_RX1_94 (cfX1_nextOfHeavy (l := E.l) (G := E.G) a0 h8) (q0 := 0) rfl rfl rfl rfl rfl rfl (Nat.le_of_ble_eq_true rfl) (Nat.le_of_ble_eq_true rfl) (Nat.le_of_ble_eq_true rfl) ?_
    show V E _ (wdH E.G a0 S0) 48 [(0, .ref (a0 0)), (1, .int p1), (2, .int p2)] [.int q7, .ref (a0 0)]
    obtain ⟨q9, h10, h⟩ := bnd h
    refine V_callV0 C (As := [.int q7]) (rest := []) (by decide +kernel) ok_yX1_lowered mk_RX1_97 (cfX1_lowered (l := E.l) (G := E.G) a0 h10) (q0 := 0) rfl rfl rfl rfl rfl rfl (Nat.le_of_ble_eq_true rfl) (Nat.le_of_ble_eq_true rfl) (Nat.le_of_ble_eq_true rfl) ?_
    show V E _ (wdH E.G a0 S0) 51 [(0, .ref (a0 0)), (1, .int p1), (2, .int p2)] [.int q9]
    have h := Option.some.inj h
    subst h
    exact V_iret C (by decide +kernel) rfl
  refine Sw_at C (dflt := 97) (lo := 1) (hi := 5) (offs := #[35, 51, 41, 69, 91]) (len := 35) (off := 69) (v := (4 : Int32)) (tgt := 70) (by decide +kernel) (by decide) (by decide) (by decide) rfl (by decide) h (fun _ h => ?_) (fun _ h => ?_)
  · refine V_pb C hn [(.aload_n 0, 1), (.iload_n 2, 1)] (pc' := 72) (ls' := [(0, .ref (a0 0)), (1, .int p1), (2, .int p2)]) (st' := [.int p2, .ref (a0 0)]) (decB_ok (by decide +kernel)) rfl rfl ?_
    obtain ⟨q11, h12, h⟩ := bnd h
    refine V_callV0 C (As := [.int p2]) (rest := []) (by decide +kernel) ok_yX1_isLit mk_RX1_100 (cfX1_isLit (l := E.l) (G := E.G) a0 h12) (q0 := 0) rfl rfl rfl rfl rfl rfl (Nat.le_of_ble_eq_true rfl) (Nat.le_of_ble_eq_true rfl) (Nat.le_of_ble_eq_true rfl) ?_
    show V E _ (wdH E.G a0 S0) 75 [(0, .ref (a0 0)), (1, .int p1), (2, .int p2)] [.int q11]
    refine V_if_eq C (off := 7) (tgt := 82) (by decide +kernel) (by decide) h (fun _ h => ?_) (fun _ h => ?_)
    · refine V_pb C hn [(.aload_n 0, 1), (.aload_n 0, 1), (.iload_n 2, 1)] (pc' := 85) (ls' := [(0, .ref (a0 0)), (1, .int p1), (2, .int p2)]) (st' := [.int p2, .ref (a0 0), .ref (a0 0)]) (decB_ok (by decide +kernel)) rfl rfl ?_
      obtain ⟨q13, h14, h⟩ := bnd h
      refine V_callV0 C (As := [.int p2]) (rest := [.ref (a0 0)]) (by decide +kernel) ok_yX1_nextOfMote mk_RX1_104 (cfX1_nextOfMote (l := E.l) (G := E.G) a0 h14) (q0 := 0) rfl rfl rfl rfl rfl rfl (Nat.le_of_ble_eq_true rfl) (Nat.le_of_ble_eq_true rfl) (Nat.le_of_ble_eq_true rfl) ?_
      show V E _ (wdH E.G a0 S0) 88 [(0, .ref (a0 0)), (1, .int p1), (2, .int p2)] [.int q13, .ref (a0 0)]
      obtain ⟨q15, h16, h⟩ := bnd h
      refine V_callV0 C (As := [.int q13]) (rest := []) (by decide +kernel) ok_yX1_towardsBeam mk_RX1_107 (cfX1_towardsBeam (l := E.l) (G := E.G) a0 h16) (q0 := 0) rfl rfl rfl rfl rfl rfl (Nat.le_of_ble_eq_true rfl) (Nat.le_of_ble_eq_true rfl) (Nat.le_of_ble_eq_true rfl) ?_
      show V E _ (wdH E.G a0 S0) 91 [(0, .ref (a0 0)), (1, .int p1), (2, .int p2)] [.int q15]
      have h := Option.some.inj h
      subst h
      exact V_iret C (by decide +kernel) rfl
    · refine V_pb C hn [(.iload_n 2, 1)] (pc' := 79) (ls' := [(0, .ref (a0 0)), (1, .int p1), (2, .int p2)]) (st' := [.int p2]) (decB_ok (by decide +kernel)) rfl rfl ?_
      refine V_goto C (off := 12) (tgt := 91) (by decide +kernel) (by decide) ?_
      have h := Option.some.inj h
      subst h
      exact V_iret C (by decide +kernel) rfl
  refine Sw_at C (dflt := 97) (lo := 1) (hi := 5) (offs := #[35, 51, 41, 69, 91]) (len := 35) (off := 91) (v := (5 : Int32)) (tgt := 92) (by decide +kernel) (by decide) (by decide) (by decide) rfl (by decide) h (fun _ h => ?_) (fun _ h => ?_)
  · refine V_pb C hn [(.aload_n 0, 1), (.iload_n 2, 1)] (pc' := 94) (ls' := [(0, .ref (a0 0)), (1, .int p1), (2, .int p2)]) (st' := [.int p2, .ref (a0 0)]) (decB_ok (by decide +kernel)) rfl rfl ?_
    obtain ⟨q17, h18, h⟩ := bnd h
    refine V_callV0 C (As := [.int p2]) (rest := []) (by decide +kernel) ok_yX1_pushedByDoors mk_RX1_110 (cfX1_pushedByDoors (l := E.l) (G := E.G) a0 h18) (q0 := 0) rfl rfl rfl rfl rfl rfl (Nat.le_of_ble_eq_true rfl) (Nat.le_of_ble_eq_true rfl) (Nat.le_of_ble_eq_true rfl) ?_
    show V E _ (wdH E.G a0 S0) 97 [(0, .ref (a0 0)), (1, .int p1), (2, .int p2)] [.int q17]
    have h := Option.some.inj h
    subst h
    exact V_iret C (by decide +kernel) rfl
  refine Sw_end C (dflt := 97) (lo := 1) (hi := 5) (offs := #[35, 51, 41, 69, 91]) (len := 35) (tgt := 98) (by decide +kernel) (by decide) (by decide) ?_
  refine V_pb C hn [(.aload_n 0, 1), (.iload_n 2, 1)] (pc' := 100) (ls' := [(0, .ref (a0 0)), (1, .int p1), (2, .int p2)]) (st' := [.int p2, .ref (a0 0)]) (decB_ok (by decide +kernel)) rfl rfl ?_
  obtain ⟨q19, h20, h⟩ := bnd h
  refine V_callV0 C (As := [.int p2]) (rest := []) (by decide +kernel) ok_yX1_nextOfMote mk_RX1_104 (cfX1_nextOfMote (l := E.l) (G := E.G) a0 h20) (q0 := 0) rfl rfl rfl rfl rfl rfl (Nat.le_of_ble_eq_true rfl) (Nat.le_of_ble_eq_true rfl) (Nat.le_of_ble_eq_true rfl) ?_
  show V E _ (wdH E.G a0 S0) 103 [(0, .ref (a0 0)), (1, .int p1), (2, .int p2)] [.int q19]
  have h := Option.some.inj h
  subst h
  exact V_iret C (by decide +kernel) rfl
set_option maxRecDepth 100000 in
set_option maxHeartbeats 400000 in
theorem cfX1_maySide {l : Launch} {G : GG} (a0 : Nat → Nat) {p1 : Int32} {S0 : HallT} {out : Int32} (h : fX1_maySide p1 S0 = some out) : Con l G 0 yX1_maySide cX1_maySide 2 (some .boolean) [.ref (a0 0), .int p1] (wdH G a0 S0) (some (.int out)) (wdH G a0 S0) := by
  refine Con_of (by decide +kernel) (Nat.le_of_ble_eq_true rfl) (fun E hl hG hn C => ?_)
  subst hl
  subst hG
  have C : Ctx E cX1_maySide RX1 0 (some .boolean) := C
  show V E _ _ 0 [(0, .ref (a0 0)), (1, .int p1)] []
  unfold fX1_maySide at h
  refine V_pb C hn [(.iload_n 1, 1), (.iconst 3, 1)] (pc' := 2) (ls' := [(0, .ref (a0 0)), (1, .int p1)]) (st' := [.int (3 : Int32), .int p1]) (decB_ok (by decide +kernel)) rfl rfl ?_
  refine V_ic_lt C (off := 21) (tgt := 23) (by decide +kernel) (by decide) h (fun _ h => ?_) (fun _ h => ?_)
  · refine V_pb C hn [(.iconst 0, 1)] (pc' := 24) (ls' := [(0, .ref (a0 0)), (1, .int p1)]) (st' := [.int (0 : Int32)]) (decB_ok (by decide +kernel)) rfl rfl ?_
    have h := Option.some.inj h
    subst h
    exact V_iret C (v := (0 : Int32)) (by decide +kernel) nb0
  · refine V_pb C hn [(.iload_n 1, 1), (.bipush 7, 2)] (pc' := 8) (ls' := [(0, .ref (a0 0)), (1, .int p1)]) (st' := [.int (7 : Int32), .int p1]) (decB_ok (by decide +kernel)) rfl rfl ?_
    refine V_ic_gt C (off := 15) (tgt := 23) (by decide +kernel) (by decide) h (fun _ h => ?_) (fun _ h => ?_)
    · refine V_pb C hn [(.iconst 0, 1)] (pc' := 24) (ls' := [(0, .ref (a0 0)), (1, .int p1)]) (st' := [.int (0 : Int32)]) (decB_ok (by decide +kernel)) rfl rfl ?_
      have h := Option.some.inj h
      subst h
      exact V_iret C (v := (0 : Int32)) (by decide +kernel) nb0
    · refine V_pb C hn [(.iload_n 1, 1), (.aload_n 0, 1)] (pc' := 13) (ls' := [(0, .ref (a0 0)), (1, .int p1)]) (st' := [.ref (a0 0), .int p1]) (decB_ok (by decide +kernel)) rfl rfl ?_
      refine V_get C (v := .int (h_side S0)) (by decide +kernel) 0 0 fk_RX1_9 rfl rfl ?_
      refine V_ic_lt C (off := 7) (tgt := 23) (by decide +kernel) (by decide) h (fun _ h => ?_) (fun _ h => ?_)
      · refine V_pb C hn [(.iconst 0, 1)] (pc' := 24) (ls' := [(0, .ref (a0 0)), (1, .int p1)]) (st' := [.int (0 : Int32)]) (decB_ok (by decide +kernel)) rfl rfl ?_
        have h := Option.some.inj h
        subst h
        exact V_iret C (v := (0 : Int32)) (by decide +kernel) nb0
      · refine V_pb C hn [(.iconst 1, 1)] (pc' := 20) (ls' := [(0, .ref (a0 0)), (1, .int p1)]) (st' := [.int (1 : Int32)]) (decB_ok (by decide +kernel)) rfl rfl ?_
        refine V_goto C (off := 4) (tgt := 24) (by decide +kernel) (by decide) ?_
        have h := Option.some.inj h
        subst h
        exact V_iret C (v := (1 : Int32)) (by decide +kernel) nb1
set_option maxRecDepth 100000 in
set_option maxHeartbeats 400000 in
theorem cfX1_isCell {l : Launch} {G : GG} (a0 : Nat → Nat) {p1 : Int32} {S0 : HallT} {out : Int32} (h : fX1_isCell p1 S0 = some out) : Con l G 0 yX1_isCell cX1_isCell 2 (some .boolean) [.ref (a0 0), .int p1] (wdH G a0 S0) (some (.int out)) (wdH G a0 S0) := by
  refine Con_of (by decide +kernel) (Nat.le_of_ble_eq_true rfl) (fun E hl hG hn C => ?_)
  subst hl
  subst hG
  have C : Ctx E cX1_isCell RX1 0 (some .boolean) := C
  show V E _ _ 0 [(0, .ref (a0 0)), (1, .int p1)] []
  unfold fX1_isCell at h
  refine V_pb C hn [(.iload_n 1, 1)] (pc' := 1) (ls' := [(0, .ref (a0 0)), (1, .int p1)]) (st' := [.int p1]) (decB_ok (by decide +kernel)) rfl rfl ?_
  refine V_if_lt C (off := 29) (tgt := 30) (by decide +kernel) (by decide) h (fun _ h => ?_) (fun _ h => ?_)
  · refine V_pb C hn [(.iconst 0, 1)] (pc' := 31) (ls' := [(0, .ref (a0 0)), (1, .int p1)]) (st' := [.int (0 : Int32)]) (decB_ok (by decide +kernel)) rfl rfl ?_
    have h := Option.some.inj h
    subst h
    exact V_iret C (v := (0 : Int32)) (by decide +kernel) nb0
  · refine V_pb C hn [(.iload_n 1, 1), (.bipush 10, 2)] (pc' := 7) (ls' := [(0, .ref (a0 0)), (1, .int p1)]) (st' := [.int (10 : Int32), .int p1]) (decB_ok (by decide +kernel)) rfl rfl ?_
    refine V_idiv C (by decide +kernel) (by decide) ?_
    refine V_pb C hn [(.aload_n 0, 1)] (pc' := 9) (ls' := [(0, .ref (a0 0)), (1, .int p1)]) (st' := [.ref (a0 0), .int (p1 / (10 : Int32))]) (decB_ok (by decide +kernel)) rfl rfl ?_
    refine V_get C (v := .int (h_side S0)) (by decide +kernel) 0 0 fk_RX1_9 rfl rfl ?_
    refine V_ic_ge C (off := 18) (tgt := 30) (by decide +kernel) (by decide) h (fun _ h => ?_) (fun _ h => ?_)
    · refine V_pb C hn [(.iconst 0, 1)] (pc' := 31) (ls' := [(0, .ref (a0 0)), (1, .int p1)]) (st' := [.int (0 : Int32)]) (decB_ok (by decide +kernel)) rfl rfl ?_
      have h := Option.some.inj h
      subst h
      exact V_iret C (v := (0 : Int32)) (by decide +kernel) nb0
    · refine V_pb C hn [(.iload_n 1, 1), (.bipush 10, 2)] (pc' := 18) (ls' := [(0, .ref (a0 0)), (1, .int p1)]) (st' := [.int (10 : Int32), .int p1]) (decB_ok (by decide +kernel)) rfl rfl ?_
      refine V_irem C (by decide +kernel) (by decide) ?_
      refine V_pb C hn [(.aload_n 0, 1)] (pc' := 20) (ls' := [(0, .ref (a0 0)), (1, .int p1)]) (st' := [.ref (a0 0), .int (irm p1 (10 : Int32))]) (decB_ok (by decide +kernel)) rfl rfl ?_
      refine V_get C (v := .int (h_side S0)) (by decide +kernel) 0 0 fk_RX1_9 rfl rfl ?_
      refine V_ic_ge C (off := 7) (tgt := 30) (by decide +kernel) (by decide) h (fun _ h => ?_) (fun _ h => ?_)
      · refine V_pb C hn [(.iconst 0, 1)] (pc' := 31) (ls' := [(0, .ref (a0 0)), (1, .int p1)]) (st' := [.int (0 : Int32)]) (decB_ok (by decide +kernel)) rfl rfl ?_
        have h := Option.some.inj h
        subst h
        exact V_iret C (v := (0 : Int32)) (by decide +kernel) nb0
      · refine V_pb C hn [(.iconst 1, 1)] (pc' := 27) (ls' := [(0, .ref (a0 0)), (1, .int p1)]) (st' := [.int (1 : Int32)]) (decB_ok (by decide +kernel)) rfl rfl ?_
        refine V_goto C (off := 4) (tgt := 31) (by decide +kernel) (by decide) ?_
        have h := Option.some.inj h
        subst h
        exact V_iret C (v := (1 : Int32)) (by decide +kernel) nb1
set_option maxRecDepth 100000 in
set_option maxHeartbeats 400000 in
theorem cfX1_hasRoom {l : Launch} {G : GG} (a0 : Nat → Nat) {S0 : HallT} {out : Int32} (h : fX1_hasRoom S0 = some out) : Con l G 0 yX1_hasRoom cX1_hasRoom 1 (some .boolean) [.ref (a0 0)] (wdH G a0 S0) (some (.int out)) (wdH G a0 S0) := by
  refine Con_of (by decide +kernel) (Nat.le_of_ble_eq_true rfl) (fun E hl hG hn C => ?_)
  subst hl
  subst hG
  have C : Ctx E cX1_hasRoom RX1 0 (some .boolean) := C
  show V E _ _ 0 [(0, .ref (a0 0))] []
  unfold fX1_hasRoom at h
  refine V_pb C hn [(.aload_n 0, 1)] (pc' := 1) (ls' := [(0, .ref (a0 0))]) (st' := [.ref (a0 0)]) (decB_ok (by decide +kernel)) rfl rfl ?_
  refine V_get C (v := .int (h_count S0)) (by decide +kernel) 0 1 fk_RX1_41 rfl rfl ?_
  refine V_pb C hn [(.bipush 10, 2)] (pc' := 6) (ls' := [(0, .ref (a0 0))]) (st' := [.int (10 : Int32), .int (h_count S0)]) (decB_ok (by decide +kernel)) rfl rfl ?_
  refine V_ic_ge C (off := 7) (tgt := 13) (by decide +kernel) (by decide) h (fun _ h => ?_) (fun _ h => ?_)
  · refine V_pb C hn [(.iconst 0, 1)] (pc' := 14) (ls' := [(0, .ref (a0 0))]) (st' := [.int (0 : Int32)]) (decB_ok (by decide +kernel)) rfl rfl ?_
    have h := Option.some.inj h
    subst h
    exact V_iret C (v := (0 : Int32)) (by decide +kernel) nb0
  · refine V_pb C hn [(.iconst 1, 1)] (pc' := 10) (ls' := [(0, .ref (a0 0))]) (st' := [.int (1 : Int32)]) (decB_ok (by decide +kernel)) rfl rfl ?_
    refine V_goto C (off := 4) (tgt := 14) (by decide +kernel) (by decide) ?_
    have h := Option.some.inj h
    subst h
    exact V_iret C (v := (1 : Int32)) (by decide +kernel) nb1
set_option maxRecDepth 100000 in
set_option maxHeartbeats 400000 in
theorem cfX1_add {l : Launch} {G : GG} (a0 : Nat → Nat) {p1 : Int32} {p2 : Int32} {p3 : Int32} {S0 : HallT} {out : HallT} (h : fX1_add p1 p2 p3 S0 = some out) : Con l G 1 yX1_add cX1_add 4 none [.ref (a0 0), .int p1, .int p2, .int p3] (wdH G a0 S0) none (wdH G a0 out) := by
  refine Con_of (by decide +kernel) (Nat.le_of_ble_eq_true rfl) (fun E hl hG hn C => ?_)
  subst hl
  subst hG
  have C : Ctx E cX1_add RX1 1 none := C
  show V E _ _ 0 [(0, .ref (a0 0)), (1, .int p1), (2, .int p2), (3, .int p3)] []
  unfold fX1_add at h
  refine V_pb C hn [(.aload_n 0, 1)] (pc' := 1) (ls' := [(0, .ref (a0 0)), (1, .int p1), (2, .int p2), (3, .int p3)]) (st' := [.ref (a0 0)]) (decB_ok (by decide +kernel)) rfl rfl ?_
  obtain ⟨q1, h2, h⟩ := bnd h
  refine V_callV0 C (As := []) (rest := []) (by decide +kernel) ok_yX1_hasRoom mk_RX1_59 (cfX1_hasRoom (l := E.l) (G := E.G) a0 h2) (q0 := 0) rfl rfl rfl rfl rfl rfl (Nat.le_of_ble_eq_true rfl) (Nat.le_of_ble_eq_true rfl) (Nat.le_of_ble_eq_true rfl) ?_
  show V E _ (wdH E.G a0 S0) 4 [(0, .ref (a0 0)), (1, .int p1), (2, .int p2), (3, .int p3)] [.int q1]
  refine V_if_ne C (off := 4) (tgt := 8) (by decide +kernel) (by decide) h (fun _ h => ?_) (fun _ h => ?_)
  · have h := Option.some.inj h
    subst h
    exact V_vret C (by decide +kernel)
  · refine V_pb C hn [(.aload_n 0, 1)] (pc' := 9) (ls' := [(0, .ref (a0 0)), (1, .int p1), (2, .int p2), (3, .int p3)]) (st' := [.ref (a0 0)]) (decB_ok (by decide +kernel)) rfl rfl ?_
    refine V_get C (v := .ref (a0 1)) (by decide +kernel) 0 2 fk_RX1_15 rfl rfl ?_
    refine V_pb C hn [(.aload_n 0, 1)] (pc' := 13) (ls' := [(0, .ref (a0 0)), (1, .int p1), (2, .int p2), (3, .int p3)]) (st' := [.ref (a0 0), .ref (a0 1)]) (decB_ok (by decide +kernel)) rfl rfl ?_
    refine V_get C (v := .int (h_count S0)) (by decide +kernel) 0 1 fk_RX1_41 rfl rfl ?_
    refine V_pb C hn [(.iload_n 1, 1)] (pc' := 17) (ls' := [(0, .ref (a0 0)), (1, .int p1), (2, .int p2), (3, .int p3)]) (st' := [.int p1, .int (h_count S0), .ref (a0 1)]) (decB_ok (by decide +kernel)) rfl rfl ?_
    obtain ⟨hb9, h⟩ := gd_some h
    obtain ⟨w3, e4, h⟩ := bnd h
    refine V_iast C (f := (h_kindOf S0)) (ws' := wdH E.G a0 w3) (by decide +kernel) 1 rfl (o := some ()) (out := ()) (by rw [hb9]; rfl) (by cases e4; rfl) (fun _ => ?_)
    refine V_pb C hn [(.aload_n 0, 1)] (pc' := 19) (ls' := [(0, .ref (a0 0)), (1, .int p1), (2, .int p2), (3, .int p3)]) (st' := [.ref (a0 0)]) (decB_ok (by decide +kernel)) rfl rfl ?_
    refine V_get C (v := .ref (a0 2)) (by decide +kernel) 0 3 fk_RX1_19 rfl rfl ?_
    refine V_pb C hn [(.aload_n 0, 1)] (pc' := 23) (ls' := [(0, .ref (a0 0)), (1, .int p1), (2, .int p2), (3, .int p3)]) (st' := [.ref (a0 0), .ref (a0 2)]) (decB_ok (by decide +kernel)) rfl rfl ?_
    refine V_get C (v := .int (h_count w3)) (by decide +kernel) 0 1 fk_RX1_41 rfl rfl ?_
    refine V_pb C hn [(.iload_n 2, 1)] (pc' := 27) (ls' := [(0, .ref (a0 0)), (1, .int p1), (2, .int p2), (3, .int p3)]) (st' := [.int p2, .int (h_count w3), .ref (a0 2)]) (decB_ok (by decide +kernel)) rfl rfl ?_
    obtain ⟨hb9, h⟩ := gd_some h
    obtain ⟨w5, e6, h⟩ := bnd h
    refine V_iast C (f := (h_weightOf w3)) (ws' := wdH E.G a0 w5) (by decide +kernel) 2 rfl (o := some ()) (out := ()) (by rw [hb9]; rfl) (by cases e6; rfl) (fun _ => ?_)
    refine V_pb C hn [(.aload_n 0, 1)] (pc' := 29) (ls' := [(0, .ref (a0 0)), (1, .int p1), (2, .int p2), (3, .int p3)]) (st' := [.ref (a0 0)]) (decB_ok (by decide +kernel)) rfl rfl ?_
    refine V_get C (v := .ref (a0 3)) (by decide +kernel) 0 4 fk_RX1_22 rfl rfl ?_
    refine V_pb C hn [(.aload_n 0, 1)] (pc' := 33) (ls' := [(0, .ref (a0 0)), (1, .int p1), (2, .int p2), (3, .int p3)]) (st' := [.ref (a0 0), .ref (a0 3)]) (decB_ok (by decide +kernel)) rfl rfl ?_
    refine V_get C (v := .int (h_count w5)) (by decide +kernel) 0 1 fk_RX1_41 rfl rfl ?_
    refine V_pb C hn [(.iload_n 3, 1)] (pc' := 37) (ls' := [(0, .ref (a0 0)), (1, .int p1), (2, .int p2), (3, .int p3)]) (st' := [.int p3, .int (h_count w5), .ref (a0 3)]) (decB_ok (by decide +kernel)) rfl rfl ?_
    obtain ⟨hb9, h⟩ := gd_some h
    obtain ⟨w7, e8, h⟩ := bnd h
    refine V_iast C (f := (h_cellOf w5)) (ws' := wdH E.G a0 w7) (by decide +kernel) 3 rfl (o := some ()) (out := ()) (by rw [hb9]; rfl) (by cases e8; rfl) (fun _ => ?_)
    refine V_pb C hn [(.aload_n 0, 1), (.dup, 1)] (pc' := 40) (ls' := [(0, .ref (a0 0)), (1, .int p1), (2, .int p2), (3, .int p3)]) (st' := [.ref (a0 0), .ref (a0 0)]) (decB_ok (by decide +kernel)) rfl rfl ?_
    refine V_get C (v := .int (h_count w7)) (by decide +kernel) 0 1 fk_RX1_41 rfl rfl ?_
    refine V_pb C hn [(.iconst 1, 1), (.iadd, 1)] (pc' := 45) (ls' := [(0, .ref (a0 0)), (1, .int p1), (2, .int p2), (3, .int p3)]) (st' := [.int ((h_count w7) + (1 : Int32)), .ref (a0 0)]) (decB_ok (by decide +kernel)) rfl rfl ?_
    obtain ⟨x9, e10, h⟩ := bnd h
    refine V_topi e10 ?_
    obtain ⟨w11, e12, h⟩ := bnd h
    refine V_put C (v := .int x9) (ws' := wdH E.G a0 w11) (by decide +kernel) 0 1 pk_RX1_41 rfl rfl rfl (Nat.le_of_ble_eq_true rfl) (by cases e12; rfl) ?_
    have h := Option.some.inj h
    subst h
    exact V_vret C (by decide +kernel)
set_option maxRecDepth 100000 in
set_option maxHeartbeats 400000 in
theorem cfX1_setDoor_j26 {E : VE} (C : Ctx E cX1_setDoor RX1 0 none) (hn : E.nL = 3) {a0 : Nat → Nat} {p1 : Int32} {p2 : Int32} {s0 : Int32} {S0 : HallT} {out : HallT} (h : fX1_setDoor_j26 p1 p2 s0 S0 = some out) : V E (QR E none (wdH E.G a0 out)) (wdH E.G a0 S0) 26 [] [.int s0, .ref (a0 0)] := by
  unfold fX1_setDoor_j26 at h
  refine V_put C (v := .int s0) (ws' := wdH E.G a0 (hs_doors S0 s0)) (by decide +kernel) 0 5 pk_RX1_44 rfl rfl rfl (Nat.le_of_ble_eq_true rfl) rfl ?_
  have h := Option.some.inj h
  subst h
  exact V_vret C (by decide +kernel)
set_option maxRecDepth 100000 in
set_option maxHeartbeats 400000 in
theorem cfX1_setDoor {l : Launch} {G : GG} (a0 : Nat → Nat) {p1 : Int32} {p2 : Int32} {S0 : HallT} {out : HallT} (h : fX1_setDoor p1 p2 S0 = some out) : Con l G 0 yX1_setDoor cX1_setDoor 3 none [.ref (a0 0), .int p1, .int p2] (wdH G a0 S0) none (wdH G a0 out) := by
  refine Con_of (by decide +kernel) (Nat.le_of_ble_eq_true rfl) (fun E hl hG hn C => ?_)
  subst hl
  subst hG
  have C : Ctx E cX1_setDoor RX1 0 none := C
  show V E _ _ 0 [(0, .ref (a0 0)), (1, .int p1), (2, .int p2)] []
  unfold fX1_setDoor at h
  refine V_pb C hn [(.aload_n 0, 1), (.iload_n 2, 1)] (pc' := 2) (ls' := [(0, .ref (a0 0)), (1, .int p1), (2, .int p2)]) (st' := [.int p2, .ref (a0 0)]) (decB_ok (by decide +kernel)) rfl rfl ?_
  refine V_if_eq C (off := 14) (tgt := 16) (by decide +kernel) (by decide) h (fun _ h => ?_) (fun _ h => ?_)
  · refine V_pb C hn [(.aload_n 0, 1)] (pc' := 17) (ls' := [(0, .ref (a0 0)), (1, .int p1), (2, .int p2)]) (st' := [.ref (a0 0), .ref (a0 0)]) (decB_ok (by decide +kernel)) rfl rfl ?_
    refine V_get C (v := .int (h_doors S0)) (by decide +kernel) 0 5 fk_RX1_44 rfl rfl ?_
    refine V_pb C hn [(.iconst 1, 1), (.iload_n 1, 1), (.ishl, 1), (.iconst (-1), 1), (.ixor, 1), (.iand, 1)] (pc' := 26) (ls' := [(0, .ref (a0 0)), (1, .int p1), (2, .int p2)]) (st' := [.int ((h_doors S0) &&& ((jshl (1 : Int32) p1) ^^^ (cI (-1)))), .ref (a0 0)]) (decB_ok (by decide +kernel)) rfl rfl ?_
    refine V_sub (ls' := []) rfl ?_
    exact cfX1_setDoor_j26 C hn h
  · refine V_pb C hn [(.aload_n 0, 1)] (pc' := 6) (ls' := [(0, .ref (a0 0)), (1, .int p1), (2, .int p2)]) (st' := [.ref (a0 0), .ref (a0 0)]) (decB_ok (by decide +kernel)) rfl rfl ?_
    refine V_get C (v := .int (h_doors S0)) (by decide +kernel) 0 5 fk_RX1_44 rfl rfl ?_
    refine V_pb C hn [(.iconst 1, 1), (.iload_n 1, 1), (.ishl, 1), (.ior, 1)] (pc' := 13) (ls' := [(0, .ref (a0 0)), (1, .int p1), (2, .int p2)]) (st' := [.int ((h_doors S0) ||| (jshl (1 : Int32) p1)), .ref (a0 0)]) (decB_ok (by decide +kernel)) rfl rfl ?_
    refine V_goto C (off := 13) (tgt := 26) (by decide +kernel) (by decide) ?_
    refine V_sub (ls' := []) rfl ?_
    exact cfX1_setDoor_j26 C hn h
set_option maxRecDepth 100000 in
set_option maxHeartbeats 400000 in
theorem cfX1_mostTold {l : Launch} {G : GG} {p0 : Int32} {out : Int32} (h : fX1_mostTold p0 = some out) : Con l G 0 yX1_mostTold cX1_mostTold 1 (some .int) [.int p0] (([] : va_W)) (some (.int out)) (([] : va_W)) := by
  refine Con_of (by decide +kernel) (Nat.le_of_ble_eq_true rfl) (fun E hl hG hn C => ?_)
  subst hl
  subst hG
  have C : Ctx E cX1_mostTold RX1 0 (some .int) := C
  show V E _ _ 0 [(0, .int p0)] []
  unfold fX1_mostTold at h
  refine V_pb C hn [(.iload_n 0, 1)] (pc' := 1) (ls' := [(0, .int p0)]) (st' := [.int p0]) (decB_ok (by decide +kernel)) rfl rfl ?_
  refine V_sw (0) ?_
  refine Sw_at C (dflt := 50) (lo := 0) (hi := 4) (offs := #[35, 37, 40, 44, 47]) (len := 35) (off := 35) (v := (0 : Int32)) (tgt := 36) (by decide +kernel) (by decide) (by decide) (by decide) rfl (by decide) h (fun _ h => ?_) (fun _ h => ?_)
  · refine V_pb C hn [(.iconst 4, 1)] (pc' := 37) (ls' := [(0, .int p0)]) (st' := [.int (4 : Int32)]) (decB_ok (by decide +kernel)) rfl rfl ?_
    have h := Option.some.inj h
    subst h
    exact V_iret C (by decide +kernel) rfl
  refine Sw_at C (dflt := 50) (lo := 0) (hi := 4) (offs := #[35, 37, 40, 44, 47]) (len := 35) (off := 37) (v := (1 : Int32)) (tgt := 38) (by decide +kernel) (by decide) (by decide) (by decide) rfl (by decide) h (fun _ h => ?_) (fun _ h => ?_)
  · refine V_pb C hn [(.bipush 9, 2)] (pc' := 40) (ls' := [(0, .int p0)]) (st' := [.int (9 : Int32)]) (decB_ok (by decide +kernel)) rfl rfl ?_
    have h := Option.some.inj h
    subst h
    exact V_iret C (by decide +kernel) rfl
  refine Sw_at C (dflt := 50) (lo := 0) (hi := 4) (offs := #[35, 37, 40, 44, 47]) (len := 35) (off := 40) (v := (2 : Int32)) (tgt := 41) (by decide +kernel) (by decide) (by decide) (by decide) rfl (by decide) h (fun _ h => ?_) (fun _ h => ?_)
  · refine V_pb C hn [(.sipush 999, 3)] (pc' := 44) (ls' := [(0, .int p0)]) (st' := [.int (999 : Int32)]) (decB_ok (by decide +kernel)) rfl rfl ?_
    have h := Option.some.inj h
    subst h
    exact V_iret C (by decide +kernel) rfl
  refine Sw_at C (dflt := 50) (lo := 0) (hi := 4) (offs := #[35, 37, 40, 44, 47]) (len := 35) (off := 44) (v := (3 : Int32)) (tgt := 45) (by decide +kernel) (by decide) (by decide) (by decide) rfl (by decide) h (fun _ h => ?_) (fun _ h => ?_)
  · refine V_pb C hn [(.bipush 6, 2)] (pc' := 47) (ls' := [(0, .int p0)]) (st' := [.int (6 : Int32)]) (decB_ok (by decide +kernel)) rfl rfl ?_
    have h := Option.some.inj h
    subst h
    exact V_iret C (by decide +kernel) rfl
  refine Sw_at C (dflt := 50) (lo := 0) (hi := 4) (offs := #[35, 37, 40, 44, 47]) (len := 35) (off := 47) (v := (4 : Int32)) (tgt := 48) (by decide +kernel) (by decide) (by decide) (by decide) rfl (by decide) h (fun _ h => ?_) (fun _ h => ?_)
  · refine V_pb C hn [(.bipush 12, 2)] (pc' := 50) (ls' := [(0, .int p0)]) (st' := [.int (12 : Int32)]) (decB_ok (by decide +kernel)) rfl rfl ?_
    have h := Option.some.inj h
    subst h
    exact V_iret C (by decide +kernel) rfl
  refine Sw_end C (dflt := 50) (lo := 0) (hi := 4) (offs := #[35, 37, 40, 44, 47]) (len := 35) (tgt := 51) (by decide +kernel) (by decide) (by decide) ?_
  refine V_pb C hn [(.iconst (-1), 1)] (pc' := 52) (ls' := [(0, .int p0)]) (st' := [.int (cI (-1))]) (decB_ok (by decide +kernel)) rfl rfl ?_
  have h := Option.some.inj h
  subst h
  exact V_iret C (by decide +kernel) rfl
set_option maxRecDepth 100000 in
set_option maxHeartbeats 400000 in
theorem cfX1_mayTell {l : Launch} {G : GG} {p0 : Int32} {p1 : Int32} {out : Int32} (h : fX1_mayTell p0 p1 = some out) : Con l G 1 yX1_mayTell cX1_mayTell 2 (some .boolean) [.int p0, .int p1] (([] : va_W)) (some (.int out)) (([] : va_W)) := by
  refine Con_of (by decide +kernel) (Nat.le_of_ble_eq_true rfl) (fun E hl hG hn C => ?_)
  subst hl
  subst hG
  have C : Ctx E cX1_mayTell RX1 1 (some .boolean) := C
  show V E _ _ 0 [(0, .int p0), (1, .int p1)] []
  unfold fX1_mayTell at h
  refine V_pb C hn [(.iload_n 1, 1)] (pc' := 1) (ls' := [(0, .int p0), (1, .int p1)]) (st' := [.int p1]) (decB_ok (by decide +kernel)) rfl rfl ?_
  refine V_if_lt C (off := 15) (tgt := 16) (by decide +kernel) (by decide) h (fun _ h => ?_) (fun _ h => ?_)
  · refine V_pb C hn [(.iconst 0, 1)] (pc' := 17) (ls' := [(0, .int p0), (1, .int p1)]) (st' := [.int (0 : Int32)]) (decB_ok (by decide +kernel)) rfl rfl ?_
    have h := Option.some.inj h
    subst h
    exact V_iret C (v := (0 : Int32)) (by decide +kernel) nb0
  · refine V_pb C hn [(.iload_n 1, 1), (.iload_n 0, 1)] (pc' := 6) (ls' := [(0, .int p0), (1, .int p1)]) (st' := [.int p0, .int p1]) (decB_ok (by decide +kernel)) rfl rfl ?_
    obtain ⟨q1, h2, h⟩ := bnd h
    refine V_callSp C (As := [.int p0]) (rest := [.int p1]) (by decide +kernel) ok_yX1_mostTold mk_RX1_63 (cfX1_mostTold (l := E.l) (G := E.G) h2) [] rfl rfl rfl rfl (Nat.le_of_ble_eq_true rfl) (Nat.le_of_ble_eq_true rfl) (Nat.le_of_ble_eq_true rfl) ?_
    show V E _ (([] : va_W)) 9 [(0, .int p0), (1, .int p1)] [.int q1, .int p1]
    refine V_ic_gt C (off := 7) (tgt := 16) (by decide +kernel) (by decide) h (fun _ h => ?_) (fun _ h => ?_)
    · refine V_pb C hn [(.iconst 0, 1)] (pc' := 17) (ls' := [(0, .int p0), (1, .int p1)]) (st' := [.int (0 : Int32)]) (decB_ok (by decide +kernel)) rfl rfl ?_
      have h := Option.some.inj h
      subst h
      exact V_iret C (v := (0 : Int32)) (by decide +kernel) nb0
    · refine V_pb C hn [(.iconst 1, 1)] (pc' := 13) (ls' := [(0, .int p0), (1, .int p1)]) (st' := [.int (1 : Int32)]) (decB_ok (by decide +kernel)) rfl rfl ?_
      refine V_goto C (off := 4) (tgt := 17) (by decide +kernel) (by decide) ?_
      have h := Option.some.inj h
      subst h
      exact V_iret C (v := (1 : Int32)) (by decide +kernel) nb1
set_option maxRecDepth 100000 in
set_option maxHeartbeats 400000 in
theorem cfX1_told {l : Launch} {G : GG} (a0 : Nat → Nat) {p1 : Int32} {S0 : HallT} {out : Int32} (h : fX1_told p1 S0 = some out) : Con l G 0 yX1_told cX1_told 2 (some .int) [.ref (a0 0), .int p1] (wdH G a0 S0) (some (.int out)) (wdH G a0 S0) := by
  refine Con_of (by decide +kernel) (Nat.le_of_ble_eq_true rfl) (fun E hl hG hn C => ?_)
  subst hl
  subst hG
  have C : Ctx E cX1_told RX1 0 (some .int) := C
  show V E _ _ 0 [(0, .ref (a0 0)), (1, .int p1)] []
  unfold fX1_told at h
  refine V_pb C hn [(.iload_n 1, 1)] (pc' := 1) (ls' := [(0, .ref (a0 0)), (1, .int p1)]) (st' := [.int p1]) (decB_ok (by decide +kernel)) rfl rfl ?_
  refine V_sw (0) ?_
  refine Sw_at C (dflt := 60) (lo := 0) (hi := 4) (offs := #[35, 40, 45, 50, 55]) (len := 35) (off := 35) (v := (0 : Int32)) (tgt := 36) (by decide +kernel) (by decide) (by decide) (by decide) rfl (by decide) h (fun _ h => ?_) (fun _ h => ?_)
  · refine V_pb C hn [(.aload_n 0, 1)] (pc' := 37) (ls' := [(0, .ref (a0 0)), (1, .int p1)]) (st' := [.ref (a0 0)]) (decB_ok (by decide +kernel)) rfl rfl ?_
    refine V_get C (v := .int (h_fan S0)) (by decide +kernel) 0 6 fk_RX1_47 rfl rfl ?_
    have h := Option.some.inj h
    subst h
    exact V_iret C (by decide +kernel) rfl
  refine Sw_at C (dflt := 60) (lo := 0) (hi := 4) (offs := #[35, 40, 45, 50, 55]) (len := 35) (off := 40) (v := (1 : Int32)) (tgt := 41) (by decide +kernel) (by decide) (by decide) (by decide) rfl (by decide) h (fun _ h => ?_) (fun _ h => ?_)
  · refine V_pb C hn [(.aload_n 0, 1)] (pc' := 42) (ls' := [(0, .ref (a0 0)), (1, .int p1)]) (st' := [.ref (a0 0)]) (decB_ok (by decide +kernel)) rfl rfl ?_
    refine V_get C (v := .int (h_warmth S0)) (by decide +kernel) 0 7 fk_RX1_50 rfl rfl ?_
    have h := Option.some.inj h
    subst h
    exact V_iret C (by decide +kernel) rfl
  refine Sw_at C (dflt := 60) (lo := 0) (hi := 4) (offs := #[35, 40, 45, 50, 55]) (len := 35) (off := 45) (v := (2 : Int32)) (tgt := 46) (by decide +kernel) (by decide) (by decide) (by decide) rfl (by decide) h (fun _ h => ?_) (fun _ h => ?_)
  · refine V_pb C hn [(.aload_n 0, 1)] (pc' := 47) (ls' := [(0, .ref (a0 0)), (1, .int p1)]) (st' := [.ref (a0 0)]) (decB_ok (by decide +kernel)) rfl rfl ?_
    refine V_get C (v := .int (h_hour S0)) (by decide +kernel) 0 8 fk_RX1_56 rfl rfl ?_
    have h := Option.some.inj h
    subst h
    exact V_iret C (by decide +kernel) rfl
  refine Sw_at C (dflt := 60) (lo := 0) (hi := 4) (offs := #[35, 40, 45, 50, 55]) (len := 35) (off := 50) (v := (3 : Int32)) (tgt := 51) (by decide +kernel) (by decide) (by decide) (by decide) rfl (by decide) h (fun _ h => ?_) (fun _ h => ?_)
  · refine V_pb C hn [(.aload_n 0, 1)] (pc' := 52) (ls' := [(0, .ref (a0 0)), (1, .int p1)]) (st' := [.ref (a0 0)]) (decB_ok (by decide +kernel)) rfl rfl ?_
    refine V_get C (v := .int (h_beam S0)) (by decide +kernel) 0 9 fk_RX1_53 rfl rfl ?_
    have h := Option.some.inj h
    subst h
    exact V_iret C (by decide +kernel) rfl
  refine Sw_at C (dflt := 60) (lo := 0) (hi := 4) (offs := #[35, 40, 45, 50, 55]) (len := 35) (off := 55) (v := (4 : Int32)) (tgt := 56) (by decide +kernel) (by decide) (by decide) (by decide) rfl (by decide) h (fun _ h => ?_) (fun _ h => ?_)
  · refine V_pb C hn [(.aload_n 0, 1)] (pc' := 57) (ls' := [(0, .ref (a0 0)), (1, .int p1)]) (st' := [.ref (a0 0)]) (decB_ok (by decide +kernel)) rfl rfl ?_
    refine V_get C (v := .int (h_chance S0)) (by decide +kernel) 0 10 fk_RX1_25 rfl rfl ?_
    have h := Option.some.inj h
    subst h
    exact V_iret C (by decide +kernel) rfl
  refine Sw_end C (dflt := 60) (lo := 0) (hi := 4) (offs := #[35, 40, 45, 50, 55]) (len := 35) (tgt := 61) (by decide +kernel) (by decide) (by decide) ?_
  refine V_pb C hn [(.iconst (-1), 1)] (pc' := 62) (ls' := [(0, .ref (a0 0)), (1, .int p1)]) (st' := [.int (cI (-1))]) (decB_ok (by decide +kernel)) rfl rfl ?_
  have h := Option.some.inj h
  subst h
  exact V_iret C (by decide +kernel) rfl
set_option maxRecDepth 100000 in
set_option maxHeartbeats 400000 in
theorem cfX1_becomes {l : Launch} {G : GG} (a0 : Nat → Nat) {p1 : Int32} {p2 : Int32} {S0 : HallT} {out : HallT} (h : fX1_becomes p1 p2 S0 = some out) : Con l G 0 yX1_becomes cX1_becomes 3 none [.ref (a0 0), .int p1, .int p2] (wdH G a0 S0) none (wdH G a0 out) := by
  refine Con_of (by decide +kernel) (Nat.le_of_ble_eq_true rfl) (fun E hl hG hn C => ?_)
  subst hl
  subst hG
  have C : Ctx E cX1_becomes RX1 0 none := C
  show V E _ _ 0 [(0, .ref (a0 0)), (1, .int p1), (2, .int p2)] []
  unfold fX1_becomes at h
  refine V_pb C hn [(.iload_n 1, 1)] (pc' := 1) (ls' := [(0, .ref (a0 0)), (1, .int p1), (2, .int p2)]) (st' := [.int p1]) (decB_ok (by decide +kernel)) rfl rfl ?_
  refine V_sw (0) ?_
  refine Sw_at C (dflt := 75) (lo := 0) (hi := 4) (offs := #[35, 43, 51, 59, 67]) (len := 35) (off := 35) (v := (0 : Int32)) (tgt := 36) (by decide +kernel) (by decide) (by decide) (by decide) rfl (by decide) h (fun _ h => ?_) (fun _ h => ?_)
  · refine V_pb C hn [(.aload_n 0, 1), (.iload_n 2, 1)] (pc' := 38) (ls' := [(0, .ref (a0 0)), (1, .int p1), (2, .int p2)]) (st' := [.int p2, .ref (a0 0)]) (decB_ok (by decide +kernel)) rfl rfl ?_
    obtain ⟨w1, e2, h⟩ := bnd h
    refine V_put C (v := .int p2) (ws' := wdH E.G a0 w1) (by decide +kernel) 0 6 pk_RX1_47 rfl rfl rfl (Nat.le_of_ble_eq_true rfl) (by cases e2; rfl) ?_
    refine V_goto C (off := 35) (tgt := 76) (by decide +kernel) (by decide) ?_
    have h := Option.some.inj h
    subst h
    exact V_vret C (by decide +kernel)
  refine Sw_at C (dflt := 75) (lo := 0) (hi := 4) (offs := #[35, 43, 51, 59, 67]) (len := 35) (off := 43) (v := (1 : Int32)) (tgt := 44) (by decide +kernel) (by decide) (by decide) (by decide) rfl (by decide) h (fun _ h => ?_) (fun _ h => ?_)
  · refine V_pb C hn [(.aload_n 0, 1), (.iload_n 2, 1)] (pc' := 46) (ls' := [(0, .ref (a0 0)), (1, .int p1), (2, .int p2)]) (st' := [.int p2, .ref (a0 0)]) (decB_ok (by decide +kernel)) rfl rfl ?_
    obtain ⟨w3, e4, h⟩ := bnd h
    refine V_put C (v := .int p2) (ws' := wdH E.G a0 w3) (by decide +kernel) 0 7 pk_RX1_50 rfl rfl rfl (Nat.le_of_ble_eq_true rfl) (by cases e4; rfl) ?_
    refine V_goto C (off := 27) (tgt := 76) (by decide +kernel) (by decide) ?_
    have h := Option.some.inj h
    subst h
    exact V_vret C (by decide +kernel)
  refine Sw_at C (dflt := 75) (lo := 0) (hi := 4) (offs := #[35, 43, 51, 59, 67]) (len := 35) (off := 51) (v := (2 : Int32)) (tgt := 52) (by decide +kernel) (by decide) (by decide) (by decide) rfl (by decide) h (fun _ h => ?_) (fun _ h => ?_)
  · refine V_pb C hn [(.aload_n 0, 1), (.iload_n 2, 1)] (pc' := 54) (ls' := [(0, .ref (a0 0)), (1, .int p1), (2, .int p2)]) (st' := [.int p2, .ref (a0 0)]) (decB_ok (by decide +kernel)) rfl rfl ?_
    obtain ⟨w5, e6, h⟩ := bnd h
    refine V_put C (v := .int p2) (ws' := wdH E.G a0 w5) (by decide +kernel) 0 8 pk_RX1_56 rfl rfl rfl (Nat.le_of_ble_eq_true rfl) (by cases e6; rfl) ?_
    refine V_goto C (off := 19) (tgt := 76) (by decide +kernel) (by decide) ?_
    have h := Option.some.inj h
    subst h
    exact V_vret C (by decide +kernel)
  refine Sw_at C (dflt := 75) (lo := 0) (hi := 4) (offs := #[35, 43, 51, 59, 67]) (len := 35) (off := 59) (v := (3 : Int32)) (tgt := 60) (by decide +kernel) (by decide) (by decide) (by decide) rfl (by decide) h (fun _ h => ?_) (fun _ h => ?_)
  · refine V_pb C hn [(.aload_n 0, 1), (.iload_n 2, 1)] (pc' := 62) (ls' := [(0, .ref (a0 0)), (1, .int p1), (2, .int p2)]) (st' := [.int p2, .ref (a0 0)]) (decB_ok (by decide +kernel)) rfl rfl ?_
    obtain ⟨w7, e8, h⟩ := bnd h
    refine V_put C (v := .int p2) (ws' := wdH E.G a0 w7) (by decide +kernel) 0 9 pk_RX1_53 rfl rfl rfl (Nat.le_of_ble_eq_true rfl) (by cases e8; rfl) ?_
    refine V_goto C (off := 11) (tgt := 76) (by decide +kernel) (by decide) ?_
    have h := Option.some.inj h
    subst h
    exact V_vret C (by decide +kernel)
  refine Sw_at C (dflt := 75) (lo := 0) (hi := 4) (offs := #[35, 43, 51, 59, 67]) (len := 35) (off := 67) (v := (4 : Int32)) (tgt := 68) (by decide +kernel) (by decide) (by decide) (by decide) rfl (by decide) h (fun _ h => ?_) (fun _ h => ?_)
  · refine V_pb C hn [(.aload_n 0, 1), (.iload_n 2, 1)] (pc' := 70) (ls' := [(0, .ref (a0 0)), (1, .int p1), (2, .int p2)]) (st' := [.int p2, .ref (a0 0)]) (decB_ok (by decide +kernel)) rfl rfl ?_
    obtain ⟨w9, e10, h⟩ := bnd h
    refine V_put C (v := .int p2) (ws' := wdH E.G a0 w9) (by decide +kernel) 0 10 pk_RX1_25 rfl rfl rfl (Nat.le_of_ble_eq_true rfl) (by cases e10; rfl) ?_
    refine V_goto C (off := 3) (tgt := 76) (by decide +kernel) (by decide) ?_
    have h := Option.some.inj h
    subst h
    exact V_vret C (by decide +kernel)
  refine Sw_end C (dflt := 75) (lo := 0) (hi := 4) (offs := #[35, 43, 51, 59, 67]) (len := 35) (tgt := 76) (by decide +kernel) (by decide) (by decide) ?_
  have h := Option.some.inj h
  subst h
  exact V_vret C (by decide +kernel)
set_option maxRecDepth 100000 in
set_option maxHeartbeats 400000 in
theorem cfX1_takePlaces {l : Launch} {G : GG} (a0 : Nat → Nat) (a1 : Nat → Nat) {S0 : HallT} {S1 : HallT} {out : HallT} (h : fX1_takePlaces S0 S1 = some out) : Con l G 1 yX1_takePlaces cX1_takePlaces 2 none [.ref (a0 0), .ref (a1 0)] (wdH G a0 S0 ++ wdH G a1 S1) none (wdH G a0 out ++ wdH G a1 S1) := by
  refine Con_of (by decide +kernel) (Nat.le_of_ble_eq_true rfl) (fun E hl hG hn C => ?_)
  subst hl
  subst hG
  have C : Ctx E cX1_takePlaces RX1 1 none := C
  show V E _ _ 0 [(0, .ref (a0 0)), (1, .ref (a1 0))] []
  unfold fX1_takePlaces at h
  refine V_pb C hn [(.aload_n 1, 1)] (pc' := 1) (ls' := [(0, .ref (a0 0)), (1, .ref (a1 0))]) (st' := [.ref (a1 0)]) (decB_ok (by decide +kernel)) rfl rfl ?_
  refine V_get C (v := .ref (a1 3)) (by decide +kernel) 4 4 fk_RX1_22 rfl rfl ?_
  refine V_pb C hn [(.iconst 0, 1), (.aload_n 0, 1)] (pc' := 6) (ls' := [(0, .ref (a0 0)), (1, .ref (a1 0))]) (st' := [.ref (a0 0), .int (0 : Int32), .ref (a1 3)]) (decB_ok (by decide +kernel)) rfl rfl ?_
  refine V_get C (v := .ref (a0 3)) (by decide +kernel) 0 4 fk_RX1_22 rfl rfl ?_
  refine V_pb C hn [(.iconst 0, 1), (.bipush 10, 2)] (pc' := 12) (ls' := [(0, .ref (a0 0)), (1, .ref (a1 0))]) (st' := [.int (10 : Int32), .int (0 : Int32), .ref (a0 3), .int (0 : Int32), .ref (a1 3)]) (decB_ok (by decide +kernel)) rfl rfl ?_
  obtain ⟨hb9, h⟩ := gd_some h
  obtain ⟨w1, e2, h⟩ := bnd h
  refine V_acpI C (f := (h_cellOf S1)) (g := (h_cellOf S0)) (ws' := wdH E.G a0 w1 ++ wdH E.G a1 S1) (by decide +kernel) mk_RX1_31 7 3 rfl rfl (o := some ()) (out := ()) (by rw [hb9]; rfl) (by cases e2; rfl) (Nat.le_of_ble_eq_true rfl) (Nat.le_of_ble_eq_true rfl) (fun _ => ?_)
  show V E _ (wdH E.G a0 w1 ++ wdH E.G a1 S1) 15 [(0, .ref (a0 0)), (1, .ref (a1 0))] []
  refine V_pb C hn [(.aload_n 0, 1), (.aload_n 1, 1)] (pc' := 17) (ls' := [(0, .ref (a0 0)), (1, .ref (a1 0))]) (st' := [.ref (a1 0), .ref (a0 0)]) (decB_ok (by decide +kernel)) rfl rfl ?_
  refine V_get C (v := .int (h_hour S1)) (by decide +kernel) 4 8 fk_RX1_56 rfl rfl ?_
  obtain ⟨w3, e4, h⟩ := bnd h
  refine V_put C (v := .int (h_hour S1)) (ws' := wdH E.G a0 w3 ++ wdH E.G a1 S1) (by decide +kernel) 0 8 pk_RX1_56 rfl rfl rfl (Nat.le_of_ble_eq_true rfl) (by cases e4; rfl) ?_
  have h := Option.some.inj h
  subst h
  exact V_vret C (by decide +kernel)
set_option maxRecDepth 100000 in
set_option maxHeartbeats 400000 in
theorem cfX1_takeOver {l : Launch} {G : GG} (a0 : Nat → Nat) (a1 : Nat → Nat) {S0 : HallT} {S1 : HallT} {out : HallT} (h : fX1_takeOver S0 S1 = some out) : Con l G 2 yX1_takeOver cX1_takeOver 2 none [.ref (a0 0), .ref (a1 0)] (wdH G a0 S0 ++ wdH G a1 S1) none (wdH G a0 out ++ wdH G a1 S1) := by
  refine Con_of (by decide +kernel) (Nat.le_of_ble_eq_true rfl) (fun E hl hG hn C => ?_)
  subst hl
  subst hG
  have C : Ctx E cX1_takeOver RX1 2 none := C
  show V E _ _ 0 [(0, .ref (a0 0)), (1, .ref (a1 0))] []
  unfold fX1_takeOver at h
  refine V_pb C hn [(.aload_n 0, 1), (.aload_n 1, 1)] (pc' := 2) (ls' := [(0, .ref (a0 0)), (1, .ref (a1 0))]) (st' := [.ref (a1 0), .ref (a0 0)]) (decB_ok (by decide +kernel)) rfl rfl ?_
  refine V_get C (v := .int (h_side S1)) (by decide +kernel) 4 0 fk_RX1_9 rfl rfl ?_
  obtain ⟨w1, e2, h⟩ := bnd h
  refine V_put C (v := .int (h_side S1)) (ws' := wdH E.G a0 w1 ++ wdH E.G a1 S1) (by decide +kernel) 0 0 pk_RX1_9 rfl rfl rfl (Nat.le_of_ble_eq_true rfl) (by cases e2; rfl) ?_
  refine V_pb C hn [(.aload_n 1, 1)] (pc' := 9) (ls' := [(0, .ref (a0 0)), (1, .ref (a1 0))]) (st' := [.ref (a1 0)]) (decB_ok (by decide +kernel)) rfl rfl ?_
  refine V_get C (v := .ref (a1 1)) (by decide +kernel) 4 2 fk_RX1_15 rfl rfl ?_
  refine V_pb C hn [(.iconst 0, 1), (.aload_n 0, 1)] (pc' := 14) (ls' := [(0, .ref (a0 0)), (1, .ref (a1 0))]) (st' := [.ref (a0 0), .int (0 : Int32), .ref (a1 1)]) (decB_ok (by decide +kernel)) rfl rfl ?_
  refine V_get C (v := .ref (a0 1)) (by decide +kernel) 0 2 fk_RX1_15 rfl rfl ?_
  refine V_pb C hn [(.iconst 0, 1), (.bipush 10, 2)] (pc' := 20) (ls' := [(0, .ref (a0 0)), (1, .ref (a1 0))]) (st' := [.int (10 : Int32), .int (0 : Int32), .ref (a0 1), .int (0 : Int32), .ref (a1 1)]) (decB_ok (by decide +kernel)) rfl rfl ?_
  obtain ⟨hb9, h⟩ := gd_some h
  obtain ⟨w3, e4, h⟩ := bnd h
  refine V_acpI C (f := (h_kindOf S1)) (g := (h_kindOf w1)) (ws' := wdH E.G a0 w3 ++ wdH E.G a1 S1) (by decide +kernel) mk_RX1_31 5 1 rfl rfl (o := some ()) (out := ()) (by rw [hb9]; rfl) (by cases e4; rfl) (Nat.le_of_ble_eq_true rfl) (Nat.le_of_ble_eq_true rfl) (fun _ => ?_)
  show V E _ (wdH E.G a0 w3 ++ wdH E.G a1 S1) 23 [(0, .ref (a0 0)), (1, .ref (a1 0))] []
  refine V_pb C hn [(.aload_n 1, 1)] (pc' := 24) (ls' := [(0, .ref (a0 0)), (1, .ref (a1 0))]) (st' := [.ref (a1 0)]) (decB_ok (by decide +kernel)) rfl rfl ?_
  refine V_get C (v := .ref (a1 2)) (by decide +kernel) 4 3 fk_RX1_19 rfl rfl ?_
  refine V_pb C hn [(.iconst 0, 1), (.aload_n 0, 1)] (pc' := 29) (ls' := [(0, .ref (a0 0)), (1, .ref (a1 0))]) (st' := [.ref (a0 0), .int (0 : Int32), .ref (a1 2)]) (decB_ok (by decide +kernel)) rfl rfl ?_
  refine V_get C (v := .ref (a0 2)) (by decide +kernel) 0 3 fk_RX1_19 rfl rfl ?_
  refine V_pb C hn [(.iconst 0, 1), (.bipush 10, 2)] (pc' := 35) (ls' := [(0, .ref (a0 0)), (1, .ref (a1 0))]) (st' := [.int (10 : Int32), .int (0 : Int32), .ref (a0 2), .int (0 : Int32), .ref (a1 2)]) (decB_ok (by decide +kernel)) rfl rfl ?_
  obtain ⟨hb9, h⟩ := gd_some h
  obtain ⟨w5, e6, h⟩ := bnd h
  refine V_acpI C (f := (h_weightOf S1)) (g := (h_weightOf w3)) (ws' := wdH E.G a0 w5 ++ wdH E.G a1 S1) (by decide +kernel) mk_RX1_31 6 2 rfl rfl (o := some ()) (out := ()) (by rw [hb9]; rfl) (by cases e6; rfl) (Nat.le_of_ble_eq_true rfl) (Nat.le_of_ble_eq_true rfl) (fun _ => ?_)
  show V E _ (wdH E.G a0 w5 ++ wdH E.G a1 S1) 38 [(0, .ref (a0 0)), (1, .ref (a1 0))] []
  refine V_pb C hn [(.aload_n 0, 1), (.aload_n 1, 1)] (pc' := 40) (ls' := [(0, .ref (a0 0)), (1, .ref (a1 0))]) (st' := [.ref (a1 0), .ref (a0 0)]) (decB_ok (by decide +kernel)) rfl rfl ?_
  obtain ⟨q7, h8, h⟩ := bnd h
  refine V_callV0 C (As := [.ref (a1 0)]) (rest := []) (by decide +kernel) ok_yX1_takePlaces mk_RX1_37 (cfX1_takePlaces (l := E.l) (G := E.G) a0 a1 h8) (q0 := 0) rfl rfl rfl rfl rfl rfl (Nat.le_of_ble_eq_true rfl) (Nat.le_of_ble_eq_true rfl) (Nat.le_of_ble_eq_true rfl) ?_
  show V E _ (wdH E.G a0 q7 ++ wdH E.G a1 S1) 43 [(0, .ref (a0 0)), (1, .ref (a1 0))] []
  refine V_pb C hn [(.aload_n 0, 1), (.aload_n 1, 1)] (pc' := 45) (ls' := [(0, .ref (a0 0)), (1, .ref (a1 0))]) (st' := [.ref (a1 0), .ref (a0 0)]) (decB_ok (by decide +kernel)) rfl rfl ?_
  refine V_get C (v := .int (h_count S1)) (by decide +kernel) 4 1 fk_RX1_41 rfl rfl ?_
  obtain ⟨w9, e10, h⟩ := bnd h
  refine V_put C (v := .int (h_count S1)) (ws' := wdH E.G a0 w9 ++ wdH E.G a1 S1) (by decide +kernel) 0 1 pk_RX1_41 rfl rfl rfl (Nat.le_of_ble_eq_true rfl) (by cases e10; rfl) ?_
  refine V_pb C hn [(.aload_n 0, 1), (.aload_n 1, 1)] (pc' := 53) (ls' := [(0, .ref (a0 0)), (1, .ref (a1 0))]) (st' := [.ref (a1 0), .ref (a0 0)]) (decB_ok (by decide +kernel)) rfl rfl ?_
  refine V_get C (v := .int (h_doors S1)) (by decide +kernel) 4 5 fk_RX1_44 rfl rfl ?_
  obtain ⟨w11, e12, h⟩ := bnd h
  refine V_put C (v := .int (h_doors S1)) (ws' := wdH E.G a0 w11 ++ wdH E.G a1 S1) (by decide +kernel) 0 5 pk_RX1_44 rfl rfl rfl (Nat.le_of_ble_eq_true rfl) (by cases e12; rfl) ?_
  refine V_pb C hn [(.aload_n 0, 1), (.aload_n 1, 1)] (pc' := 61) (ls' := [(0, .ref (a0 0)), (1, .ref (a1 0))]) (st' := [.ref (a1 0), .ref (a0 0)]) (decB_ok (by decide +kernel)) rfl rfl ?_
  refine V_get C (v := .int (h_fan S1)) (by decide +kernel) 4 6 fk_RX1_47 rfl rfl ?_
  obtain ⟨w13, e14, h⟩ := bnd h
  refine V_put C (v := .int (h_fan S1)) (ws' := wdH E.G a0 w13 ++ wdH E.G a1 S1) (by decide +kernel) 0 6 pk_RX1_47 rfl rfl rfl (Nat.le_of_ble_eq_true rfl) (by cases e14; rfl) ?_
  refine V_pb C hn [(.aload_n 0, 1), (.aload_n 1, 1)] (pc' := 69) (ls' := [(0, .ref (a0 0)), (1, .ref (a1 0))]) (st' := [.ref (a1 0), .ref (a0 0)]) (decB_ok (by decide +kernel)) rfl rfl ?_
  refine V_get C (v := .int (h_warmth S1)) (by decide +kernel) 4 7 fk_RX1_50 rfl rfl ?_
  obtain ⟨w15, e16, h⟩ := bnd h
  refine V_put C (v := .int (h_warmth S1)) (ws' := wdH E.G a0 w15 ++ wdH E.G a1 S1) (by decide +kernel) 0 7 pk_RX1_50 rfl rfl rfl (Nat.le_of_ble_eq_true rfl) (by cases e16; rfl) ?_
  refine V_pb C hn [(.aload_n 0, 1), (.aload_n 1, 1)] (pc' := 77) (ls' := [(0, .ref (a0 0)), (1, .ref (a1 0))]) (st' := [.ref (a1 0), .ref (a0 0)]) (decB_ok (by decide +kernel)) rfl rfl ?_
  refine V_get C (v := .int (h_beam S1)) (by decide +kernel) 4 9 fk_RX1_53 rfl rfl ?_
  obtain ⟨w17, e18, h⟩ := bnd h
  refine V_put C (v := .int (h_beam S1)) (ws' := wdH E.G a0 w17 ++ wdH E.G a1 S1) (by decide +kernel) 0 9 pk_RX1_53 rfl rfl rfl (Nat.le_of_ble_eq_true rfl) (by cases e18; rfl) ?_
  refine V_pb C hn [(.aload_n 0, 1), (.aload_n 1, 1)] (pc' := 85) (ls' := [(0, .ref (a0 0)), (1, .ref (a1 0))]) (st' := [.ref (a1 0), .ref (a0 0)]) (decB_ok (by decide +kernel)) rfl rfl ?_
  refine V_get C (v := .int (h_chance S1)) (by decide +kernel) 4 10 fk_RX1_25 rfl rfl ?_
  obtain ⟨w19, e20, h⟩ := bnd h
  refine V_put C (v := .int (h_chance S1)) (ws' := wdH E.G a0 w19 ++ wdH E.G a1 S1) (by decide +kernel) 0 10 pk_RX1_25 rfl rfl rfl (Nat.le_of_ble_eq_true rfl) (by cases e20; rfl) ?_
  refine V_pb C hn [(.aload_n 0, 1), (.aload_n 1, 1)] (pc' := 93) (ls' := [(0, .ref (a0 0)), (1, .ref (a1 0))]) (st' := [.ref (a1 0), .ref (a0 0)]) (decB_ok (by decide +kernel)) rfl rfl ?_
  refine V_get C (v := .int (h_seed S1)) (by decide +kernel) 4 11 fk_RX1_28 rfl rfl ?_
  obtain ⟨w21, e22, h⟩ := bnd h
  refine V_put C (v := .int (h_seed S1)) (ws' := wdH E.G a0 w21 ++ wdH E.G a1 S1) (by decide +kernel) 0 11 pk_RX1_28 rfl rfl rfl (Nat.le_of_ble_eq_true rfl) (by cases e22; rfl) ?_
  have h := Option.some.inj h
  subst h
  exact V_vret C (by decide +kernel)
set_option maxRecDepth 100000 in
set_option maxHeartbeats 400000 in
theorem cfX1_weightInAll_L4 {E : VE} (C : Ctx E cX1_weightInAll RX1 0 (some .int)) (hn : E.nL = 3) {a0 : Nat → Nat} {S0 : HallT} {out : Int32} : ∀ (n : Nat) (v1 : Int32) (v2 : Int32), fX1_weightInAll_L4 S0 n v1 v2 = some out → V E (QR E (some (.int out)) (wdH E.G a0 S0)) (wdH E.G a0 S0) 4 [(0, .ref (a0 0)), (1, .int v1), (2, .int v2)] [] := by
  intro n
  induction n with
  | zero =>
    intro v1 v2 h
    cases h
  | succ n ih =>
    intro v1 v2 h
    unfold fX1_weightInAll_L4 at h
    refine V_pb C hn [(.iload_n 2, 1), (.aload_n 0, 1)] (pc' := 6) (ls' := [(0, .ref (a0 0)), (1, .int v1), (2, .int v2)]) (st' := [.ref (a0 0), .int v2]) (decB_ok (by decide +kernel)) rfl rfl ?_
    refine V_get C (v := .int (h_count S0)) (by decide +kernel) 0 1 fk_RX1_41 rfl rfl ?_
    refine V_ic_ge C (off := 18) (tgt := 27) (by decide +kernel) (by decide) h (fun _ h => ?_) (fun _ h => ?_)
    · refine V_pb C hn [(.iload_n 1, 1)] (pc' := 28) (ls' := [(0, .ref (a0 0)), (1, .int v1), (2, .int v2)]) (st' := [.int v1]) (decB_ok (by decide +kernel)) rfl rfl ?_
      have h := Option.some.inj h
      subst h
      exact V_iret C (by decide +kernel) rfl
    · refine V_pb C hn [(.iload_n 1, 1), (.aload_n 0, 1)] (pc' := 14) (ls' := [(0, .ref (a0 0)), (1, .int v1), (2, .int v2)]) (st' := [.ref (a0 0), .int v1]) (decB_ok (by decide +kernel)) rfl rfl ?_
      refine V_get C (v := .ref (a0 2)) (by decide +kernel) 0 3 fk_RX1_19 rfl rfl ?_
      refine V_pb C hn [(.iload_n 2, 1)] (pc' := 18) (ls' := [(0, .ref (a0 0)), (1, .int v1), (2, .int v2)]) (st' := [.int v2, .ref (a0 2), .int v1]) (decB_ok (by decide +kernel)) rfl rfl ?_
      refine V_iald C (f := (h_weightOf S0)) (by decide +kernel) 2 rfl h (fun h => ?_)
      refine V_pb C hn [(.iadd, 1), (.istore_n 1, 1), (.iinc 2 1, 3)] (pc' := 24) (ls' := [(0, .ref (a0 0)), (1, .int (v1 + ((h_weightOf S0) (ix v2)))), (2, .int (v2 + (1 : Int32)))]) (st' := []) (decB_ok (by decide +kernel)) rfl rfl ?_
      refine V_goto C (off := -20) (tgt := 4) (by decide +kernel) (by decide) ?_
      refine V_sub (ls' := [(0, .ref (a0 0)), (1, .int (v1 + ((h_weightOf S0) (ix v2)))), (2, .int (v2 + (1 : Int32)))]) rfl ?_
      exact ih _ _ h
set_option maxRecDepth 100000 in
set_option maxHeartbeats 400000 in
theorem cfX1_weightInAll {l : Launch} {G : GG} (a0 : Nat → Nat) {S0 : HallT} {out : Int32} (h : fX1_weightInAll S0 = some out) : Con l G 0 yX1_weightInAll cX1_weightInAll 3 (some .int) [.ref (a0 0)] (wdH G a0 S0) (some (.int out)) (wdH G a0 S0) := by
  refine Con_of (by decide +kernel) (Nat.le_of_ble_eq_true rfl) (fun E hl hG hn C => ?_)
  subst hl
  subst hG
  have C : Ctx E cX1_weightInAll RX1 0 (some .int) := C
  show V E _ _ 0 [(0, .ref (a0 0))] []
  unfold fX1_weightInAll at h
  refine V_pb C hn [(.iconst 0, 1), (.istore_n 1, 1), (.iconst 0, 1), (.istore_n 2, 1)] (pc' := 4) (ls' := [(0, .ref (a0 0)), (1, .int (0 : Int32)), (2, .int (0 : Int32))]) (st' := []) (decB_ok (by decide +kernel)) rfl rfl ?_
  refine V_sub (ls' := [(0, .ref (a0 0)), (1, .int (0 : Int32)), (2, .int (0 : Int32))]) rfl ?_
  exact cfX1_weightInAll_L4 C hn FU _ _ h
set_option maxRecDepth 100000 in
set_option maxHeartbeats 400000 in
theorem cfX1_passHour {l : Launch} {G : GG} (a0 : Nat → Nat) {S0 : HallT} {out : HallT} (h : fX1_passHour S0 = some out) : Con l G 1 yX1_passHour cX1_passHour 1 none [.ref (a0 0)] (wdH G a0 S0) none (wdH G a0 out) := by
  refine Con_of (by decide +kernel) (Nat.le_of_ble_eq_true rfl) (fun E hl hG hn C => ?_)
  subst hl
  subst hG
  have C : Ctx E cX1_passHour RX1 1 none := C
  show V E _ _ 0 [(0, .ref (a0 0))] []
  unfold fX1_passHour at h
  refine V_pb C hn [(.aload_n 0, 1), (.aload_n 0, 1)] (pc' := 2) (ls' := [(0, .ref (a0 0))]) (st' := [.ref (a0 0), .ref (a0 0)]) (decB_ok (by decide +kernel)) rfl rfl ?_
  refine V_get C (v := .int (h_hour S0)) (by decide +kernel) 0 8 fk_RX1_56 rfl rfl ?_
  refine V_pb C hn [(.iconst 1, 1), (.iadd, 1), (.sipush 999, 3)] (pc' := 10) (ls' := [(0, .ref (a0 0))]) (st' := [.int (999 : Int32), .int ((h_hour S0) + (1 : Int32)), .ref (a0 0)]) (decB_ok (by decide +kernel)) rfl rfl ?_
  refine V_min C (by decide +kernel) mk_RX1_74 (Nat.le_of_ble_eq_true rfl) (Nat.le_of_ble_eq_true rfl) ?_
  obtain ⟨x1, e2, h⟩ := bnd h
  refine V_topi e2 ?_
  refine V_put C (v := .int x1) (ws' := wdH E.G a0 (hs_hour S0 x1)) (by decide +kernel) 0 8 pk_RX1_56 rfl rfl rfl (Nat.le_of_ble_eq_true rfl) rfl ?_
  have h := Option.some.inj h
  subst h
  exact V_vret C (by decide +kernel)
set_option maxRecDepth 100000 in
set_option maxHeartbeats 400000 in
theorem cfX1_goOn_j45 {E : VE} (C : Ctx E cX1_goOn RX1 3 none) (hn : E.nL = 4) {a0 : Nat → Nat} {p1 : Int32} {v2 : Int32} {S0 : HallT} {out : HallT} {k2 : Int32 → HallT → Option (HallT)} (hk2 : ∀ (v2 : Int32) (S0 : HallT), k2 v2 S0 = some out → V E (QR E none (wdH E.G a0 out)) (wdH E.G a0 S0) 2 [(0, .ref (a0 0)), (1, .int p1), (2, .int v2)] []) (h : fX1_goOn_j45 k2 p1 v2 S0 = some out) : V E (QR E none (wdH E.G a0 out)) (wdH E.G a0 S0) 45 [(0, .ref (a0 0)), (1, .int p1), (2, .int v2)] [] := by
  unfold fX1_goOn_j45 at h
  refine V_pb C hn [(.aload_n 0, 1)] (pc' := 46) (ls' := [(0, .ref (a0 0)), (1, .int p1), (2, .int v2)]) (st' := [.ref (a0 0)]) (decB_ok (by decide +kernel)) rfl rfl ?_
  obtain ⟨q1, h2, h⟩ := bnd h
  refine V_callV0 C (As := []) (rest := []) (by decide +kernel) ok_yX1_passHour mk_RX1_71 (cfX1_passHour (l := E.l) (G := E.G) a0 h2) (q0 := 0) rfl rfl rfl rfl rfl rfl (Nat.le_of_ble_eq_true rfl) (Nat.le_of_ble_eq_true rfl) (Nat.le_of_ble_eq_true rfl) ?_
  show V E _ (wdH E.G a0 q1) 49 [(0, .ref (a0 0)), (1, .int p1), (2, .int v2)] []
  refine V_pb C hn [(.iinc 2 1, 3)] (pc' := 52) (ls' := [(0, .ref (a0 0)), (1, .int p1), (2, .int (v2 + (1 : Int32)))]) (st' := []) (decB_ok (by decide +kernel)) rfl rfl ?_
  refine V_goto C (off := -50) (tgt := 2) (by decide +kernel) (by decide) ?_
  refine V_sub (ls' := [(0, .ref (a0 0)), (1, .int p1), (2, .int (v2 + (1 : Int32)))]) rfl ?_
  exact hk2 _ _ h
set_option maxRecDepth 100000 in
set_option maxHeartbeats 400000 in
theorem cfX1_goOn_L9 {E : VE} (C : Ctx E cX1_goOn RX1 3 none) (hn : E.nL = 4) {a0 : Nat → Nat} {p1 : Int32} {out : HallT} {k2 : Int32 → HallT → Option (HallT)} (hk2 : ∀ (v2 : Int32) (S0 : HallT), k2 v2 S0 = some out → V E (QR E none (wdH E.G a0 out)) (wdH E.G a0 S0) 2 [(0, .ref (a0 0)), (1, .int p1), (2, .int v2)] []) : ∀ (n : Nat) (v2 : Int32) (v3 : Int32) (S0 : HallT), fX1_goOn_L9 k2 p1 n v2 v3 S0 = some out → V E (QR E none (wdH E.G a0 out)) (wdH E.G a0 S0) 9 [(0, .ref (a0 0)), (1, .int p1), (2, .int v2), (3, .int v3)] [] := by
  intro n
  induction n with
  | zero =>
    intro v2 v3 S0 h
    cases h
  | succ n ih =>
    intro v2 v3 S0 h
    unfold fX1_goOn_L9 at h
    refine V_pb C hn [(.iload_n 3, 1), (.aload_n 0, 1)] (pc' := 11) (ls' := [(0, .ref (a0 0)), (1, .int p1), (2, .int v2), (3, .int v3)]) (st' := [.ref (a0 0), .int v3]) (decB_ok (by decide +kernel)) rfl rfl ?_
    refine V_get C (v := .int (h_count S0)) (by decide +kernel) 0 1 fk_RX1_41 rfl rfl ?_
    refine V_ic_ge C (off := 31) (tgt := 45) (by decide +kernel) (by decide) h (fun _ h => ?_) (fun _ h => ?_)
    · refine V_sub (ls' := [(0, .ref (a0 0)), (1, .int p1), (2, .int v2)]) rfl ?_
      exact cfX1_goOn_j45 C hn (k2 := k2) (hk2) h
    · refine V_pb C hn [(.aload_n 0, 1)] (pc' := 18) (ls' := [(0, .ref (a0 0)), (1, .int p1), (2, .int v2), (3, .int v3)]) (st' := [.ref (a0 0)]) (decB_ok (by decide +kernel)) rfl rfl ?_
      refine V_get C (v := .ref (a0 3)) (by decide +kernel) 0 4 fk_RX1_22 rfl rfl ?_
      refine V_pb C hn [(.iload_n 3, 1), (.aload_n 0, 1), (.aload_n 0, 1)] (pc' := 24) (ls' := [(0, .ref (a0 0)), (1, .int p1), (2, .int v2), (3, .int v3)]) (st' := [.ref (a0 0), .ref (a0 0), .int v3, .ref (a0 3)]) (decB_ok (by decide +kernel)) rfl rfl ?_
      refine V_get C (v := .ref (a0 1)) (by decide +kernel) 0 2 fk_RX1_15 rfl rfl ?_
      refine V_pb C hn [(.iload_n 3, 1)] (pc' := 28) (ls' := [(0, .ref (a0 0)), (1, .int p1), (2, .int v2), (3, .int v3)]) (st' := [.int v3, .ref (a0 1), .ref (a0 0), .int v3, .ref (a0 3)]) (decB_ok (by decide +kernel)) rfl rfl ?_
      refine V_iald C (f := (h_kindOf S0)) (by decide +kernel) 1 rfl h (fun h => ?_)
      refine V_pb C hn [(.aload_n 0, 1)] (pc' := 30) (ls' := [(0, .ref (a0 0)), (1, .int p1), (2, .int v2), (3, .int v3)]) (st' := [.ref (a0 0), .int ((h_kindOf S0) (ix v3)), .ref (a0 0), .int v3, .ref (a0 3)]) (decB_ok (by decide +kernel)) rfl rfl ?_
      refine V_get C (v := .ref (a0 3)) (by decide +kernel) 0 4 fk_RX1_22 rfl rfl ?_
      refine V_pb C hn [(.iload_n 3, 1)] (pc' := 34) (ls' := [(0, .ref (a0 0)), (1, .int p1), (2, .int v2), (3, .int v3)]) (st' := [.int v3, .ref (a0 3), .int ((h_kindOf S0) (ix v3)), .ref (a0 0), .int v3, .ref (a0 3)]) (decB_ok (by decide +kernel)) rfl rfl ?_
      refine V_iald C (f := (h_cellOf S0)) (by decide +kernel) 3 rfl h (fun h => ?_)
      obtain ⟨q3, h4, h⟩ := bnd h
      refine V_callV0 C (As := [.int ((h_kindOf S0) (ix v3)), .int ((h_cellOf S0) (ix v3))]) (rest := [.int v3, .ref (a0 3)]) (by decide +kernel) ok_yX1_next mk_RX1_67 (cfX1_next (l := E.l) (G := E.G) a0 h4) (q0 := 0) rfl rfl rfl rfl rfl rfl (Nat.le_of_ble_eq_true rfl) (Nat.le_of_ble_eq_true rfl) (Nat.le_of_ble_eq_true rfl) ?_
      show V E _ (wdH E.G a0 S0) 38 [(0, .ref (a0 0)), (1, .int p1), (2, .int v2), (3, .int v3)] [.int q3, .int v3, .ref (a0 3)]
      refine V_iast C (f := (h_cellOf S0)) (ws' := wdH E.G a0 (hs_cellOf S0 (upd (h_cellOf S0) (ix v3) q3))) (by decide +kernel) 3 rfl h rfl (fun h => ?_)
      refine V_pb C hn [(.iinc 3 1, 3)] (pc' := 42) (ls' := [(0, .ref (a0 0)), (1, .int p1), (2, .int v2), (3, .int (v3 + (1 : Int32)))]) (st' := []) (decB_ok (by decide +kernel)) rfl rfl ?_
      refine V_goto C (off := -33) (tgt := 9) (by decide +kernel) (by decide) ?_
      refine V_sub (ls' := [(0, .ref (a0 0)), (1, .int p1), (2, .int v2), (3, .int (v3 + (1 : Int32)))]) rfl ?_
      exact ih _ _ _ h
set_option maxRecDepth 100000 in
set_option maxHeartbeats 400000 in
theorem cfX1_goOn_L2 {E : VE} (C : Ctx E cX1_goOn RX1 3 none) (hn : E.nL = 4) {a0 : Nat → Nat} {p1 : Int32} {out : HallT} : ∀ (n : Nat) (v2 : Int32) (S0 : HallT), fX1_goOn_L2 p1 n v2 S0 = some out → V E (QR E none (wdH E.G a0 out)) (wdH E.G a0 S0) 2 [(0, .ref (a0 0)), (1, .int p1), (2, .int v2)] [] := by
  intro n
  induction n with
  | zero =>
    intro v2 S0 h
    cases h
  | succ n ih =>
    intro v2 S0 h
    unfold fX1_goOn_L2 at h
    refine V_pb C hn [(.iload_n 2, 1), (.iload_n 1, 1)] (pc' := 4) (ls' := [(0, .ref (a0 0)), (1, .int p1), (2, .int v2)]) (st' := [.int p1, .int v2]) (decB_ok (by decide +kernel)) rfl rfl ?_
    refine V_ic_ge C (off := 51) (tgt := 55) (by decide +kernel) (by decide) h (fun _ h => ?_) (fun _ h => ?_)
    · have h := Option.some.inj h
      subst h
      exact V_vret C (by decide +kernel)
    · refine V_pb C hn [(.iconst 0, 1), (.istore_n 3, 1)] (pc' := 9) (ls' := [(0, .ref (a0 0)), (1, .int p1), (2, .int v2), (3, .int (0 : Int32))]) (st' := []) (decB_ok (by decide +kernel)) rfl rfl ?_
      refine V_sub (ls' := [(0, .ref (a0 0)), (1, .int p1), (2, .int v2), (3, .int (0 : Int32))]) rfl ?_
      exact cfX1_goOn_L9 C hn (k2 := (fun v2 S0 => fX1_goOn_L2 p1 n v2 S0)) (fun v2 S0 h => ih v2 S0 h) FU _ _ _ h
set_option maxRecDepth 100000 in
set_option maxHeartbeats 400000 in
theorem cfX1_goOn {l : Launch} {G : GG} (a0 : Nat → Nat) {p1 : Int32} {S0 : HallT} {out : HallT} (h : fX1_goOn p1 S0 = some out) : Con l G 3 yX1_goOn cX1_goOn 4 none [.ref (a0 0), .int p1] (wdH G a0 S0) none (wdH G a0 out) := by
  refine Con_of (by decide +kernel) (Nat.le_of_ble_eq_true rfl) (fun E hl hG hn C => ?_)
  subst hl
  subst hG
  have C : Ctx E cX1_goOn RX1 3 none := C
  show V E _ _ 0 [(0, .ref (a0 0)), (1, .int p1)] []
  unfold fX1_goOn at h
  refine V_pb C hn [(.iconst 0, 1), (.istore_n 2, 1)] (pc' := 2) (ls' := [(0, .ref (a0 0)), (1, .int p1), (2, .int (0 : Int32))]) (st' := []) (decB_ok (by decide +kernel)) rfl rfl ?_
  refine V_sub (ls' := [(0, .ref (a0 0)), (1, .int p1), (2, .int (0 : Int32))]) rfl ?_
  exact cfX1_goOn_L2 C hn FU _ _ h
set_option maxRecDepth 100000 in
set_option maxHeartbeats 400000 in
theorem cfX1_litWeight_j36 {E : VE} (C : Ctx E cX1_litWeight RX1 2 (some .int)) (hn : E.nL = 3) {a0 : Nat → Nat} {S0 : HallT} {v2 : Int32} {s0 : Int32} {s1 : Int32} {out : Int32} {k4 : Int32 → Int32 → Option (Int32)} (hk4 : ∀ (v1 : Int32) (v2 : Int32), k4 v1 v2 = some out → V E (QR E (some (.int out)) (wdH E.G a0 S0)) (wdH E.G a0 S0) 4 [(0, .ref (a0 0)), (1, .int v1), (2, .int v2)] []) (h : fX1_litWeight_j36 k4 S0 v2 s0 s1 = some out) : V E (QR E (some (.int out)) (wdH E.G a0 S0)) (wdH E.G a0 S0) 36 [(0, .ref (a0 0)), (2, .int v2)] [.int s0, .int s1] := by
  unfold fX1_litWeight_j36 at h
  refine V_pb C hn [(.iadd, 1), (.istore_n 1, 1), (.iinc 2 1, 3)] (pc' := 41) (ls' := [(0, .ref (a0 0)), (1, .int (s1 + s0)), (2, .int (v2 + (1 : Int32)))]) (st' := []) (decB_ok (by decide +kernel)) rfl rfl ?_
  refine V_goto C (off := -37) (tgt := 4) (by decide +kernel) (by decide) ?_
  refine V_sub (ls' := [(0, .ref (a0 0)), (1, .int (s1 + s0)), (2, .int (v2 + (1 : Int32)))]) rfl ?_
  exact hk4 _ _ h
set_option maxRecDepth 100000 in
set_option maxHeartbeats 400000 in
theorem cfX1_litWeight_L4 {E : VE} (C : Ctx E cX1_litWeight RX1 2 (some .int)) (hn : E.nL = 3) {a0 : Nat → Nat} {S0 : HallT} {out : Int32} : ∀ (n : Nat) (v1 : Int32) (v2 : Int32), fX1_litWeight_L4 S0 n v1 v2 = some out → V E (QR E (some (.int out)) (wdH E.G a0 S0)) (wdH E.G a0 S0) 4 [(0, .ref (a0 0)), (1, .int v1), (2, .int v2)] [] := by
  intro n
  induction n with
  | zero =>
    intro v1 v2 h
    cases h
  | succ n ih =>
    intro v1 v2 h
    unfold fX1_litWeight_L4 at h
    refine V_pb C hn [(.iload_n 2, 1), (.aload_n 0, 1)] (pc' := 6) (ls' := [(0, .ref (a0 0)), (1, .int v1), (2, .int v2)]) (st' := [.ref (a0 0), .int v2]) (decB_ok (by decide +kernel)) rfl rfl ?_
    refine V_get C (v := .int (h_count S0)) (by decide +kernel) 0 1 fk_RX1_41 rfl rfl ?_
    refine V_ic_ge C (off := 35) (tgt := 44) (by decide +kernel) (by decide) h (fun _ h => ?_) (fun _ h => ?_)
    · refine V_pb C hn [(.iload_n 1, 1)] (pc' := 45) (ls' := [(0, .ref (a0 0)), (1, .int v1), (2, .int v2)]) (st' := [.int v1]) (decB_ok (by decide +kernel)) rfl rfl ?_
      have h := Option.some.inj h
      subst h
      exact V_iret C (by decide +kernel) rfl
    · refine V_pb C hn [(.iload_n 1, 1), (.aload_n 0, 1), (.aload_n 0, 1)] (pc' := 15) (ls' := [(0, .ref (a0 0)), (1, .int v1), (2, .int v2)]) (st' := [.ref (a0 0), .ref (a0 0), .int v1]) (decB_ok (by decide +kernel)) rfl rfl ?_
      refine V_get C (v := .ref (a0 3)) (by decide +kernel) 0 4 fk_RX1_22 rfl rfl ?_
      refine V_pb C hn [(.iload_n 2, 1)] (pc' := 19) (ls' := [(0, .ref (a0 0)), (1, .int v1), (2, .int v2)]) (st' := [.int v2, .ref (a0 3), .ref (a0 0), .int v1]) (decB_ok (by decide +kernel)) rfl rfl ?_
      refine V_iald C (f := (h_cellOf S0)) (by decide +kernel) 3 rfl h (fun h => ?_)
      obtain ⟨q1, h2, h⟩ := bnd h
      refine V_callV0 C (As := [.int ((h_cellOf S0) (ix v2))]) (rest := [.int v1]) (by decide +kernel) ok_yX1_isLit mk_RX1_100 (cfX1_isLit (l := E.l) (G := E.G) a0 h2) (q0 := 0) rfl rfl rfl rfl rfl rfl (Nat.le_of_ble_eq_true rfl) (Nat.le_of_ble_eq_true rfl) (Nat.le_of_ble_eq_true rfl) ?_
      show V E _ (wdH E.G a0 S0) 23 [(0, .ref (a0 0)), (1, .int v1), (2, .int v2)] [.int q1, .int v1]
      refine V_if_eq C (off := 12) (tgt := 35) (by decide +kernel) (by decide) h (fun _ h => ?_) (fun _ h => ?_)
      · refine V_pb C hn [(.iconst 0, 1)] (pc' := 36) (ls' := [(0, .ref (a0 0)), (1, .int v1), (2, .int v2)]) (st' := [.int (0 : Int32), .int v1]) (decB_ok (by decide +kernel)) rfl rfl ?_
        refine V_sub (ls' := [(0, .ref (a0 0)), (2, .int v2)]) rfl ?_
        exact cfX1_litWeight_j36 C hn (k4 := (fun v1 v2 => fX1_litWeight_L4 S0 n v1 v2)) (fun v1 v2 h => ih v1 v2 h) h
      · refine V_pb C hn [(.aload_n 0, 1)] (pc' := 27) (ls' := [(0, .ref (a0 0)), (1, .int v1), (2, .int v2)]) (st' := [.ref (a0 0), .int v1]) (decB_ok (by decide +kernel)) rfl rfl ?_
        refine V_get C (v := .ref (a0 2)) (by decide +kernel) 0 3 fk_RX1_19 rfl rfl ?_
        refine V_pb C hn [(.iload_n 2, 1)] (pc' := 31) (ls' := [(0, .ref (a0 0)), (1, .int v1), (2, .int v2)]) (st' := [.int v2, .ref (a0 2), .int v1]) (decB_ok (by decide +kernel)) rfl rfl ?_
        refine V_iald C (f := (h_weightOf S0)) (by decide +kernel) 2 rfl h (fun h => ?_)
        refine V_goto C (off := 4) (tgt := 36) (by decide +kernel) (by decide) ?_
        refine V_sub (ls' := [(0, .ref (a0 0)), (2, .int v2)]) rfl ?_
        exact cfX1_litWeight_j36 C hn (k4 := (fun v1 v2 => fX1_litWeight_L4 S0 n v1 v2)) (fun v1 v2 h => ih v1 v2 h) h
set_option maxRecDepth 100000 in
set_option maxHeartbeats 400000 in
theorem cfX1_litWeight {l : Launch} {G : GG} (a0 : Nat → Nat) {S0 : HallT} {out : Int32} (h : fX1_litWeight S0 = some out) : Con l G 2 yX1_litWeight cX1_litWeight 3 (some .int) [.ref (a0 0)] (wdH G a0 S0) (some (.int out)) (wdH G a0 S0) := by
  refine Con_of (by decide +kernel) (Nat.le_of_ble_eq_true rfl) (fun E hl hG hn C => ?_)
  subst hl
  subst hG
  have C : Ctx E cX1_litWeight RX1 2 (some .int) := C
  show V E _ _ 0 [(0, .ref (a0 0))] []
  unfold fX1_litWeight at h
  refine V_pb C hn [(.iconst 0, 1), (.istore_n 1, 1), (.iconst 0, 1), (.istore_n 2, 1)] (pc' := 4) (ls' := [(0, .ref (a0 0)), (1, .int (0 : Int32)), (2, .int (0 : Int32))]) (st' := []) (decB_ok (by decide +kernel)) rfl rfl ?_
  refine V_sub (ls' := [(0, .ref (a0 0)), (1, .int (0 : Int32)), (2, .int (0 : Int32))]) rfl ?_
  exact cfX1_litWeight_L4 C hn FU _ _ h
set_option maxRecDepth 100000 in
set_option maxHeartbeats 400000 in
theorem cfX1_carries {l : Launch} {G : GG} (a0 : Nat → Nat) {S0 : HallT} {out : Int32} (h : fX1_carries S0 = some out) : Con l G 3 yX1_carries cX1_carries 1 (some .boolean) [.ref (a0 0)] (wdH G a0 S0) (some (.int out)) (wdH G a0 S0) := by
  refine Con_of (by decide +kernel) (Nat.le_of_ble_eq_true rfl) (fun E hl hG hn C => ?_)
  subst hl
  subst hG
  have C : Ctx E cX1_carries RX1 3 (some .boolean) := C
  show V E _ _ 0 [(0, .ref (a0 0))] []
  unfold fX1_carries at h
  refine V_pb C hn [(.iconst 2, 1), (.aload_n 0, 1)] (pc' := 2) (ls' := [(0, .ref (a0 0))]) (st' := [.ref (a0 0), .int (2 : Int32)]) (decB_ok (by decide +kernel)) rfl rfl ?_
  obtain ⟨q1, h2, h⟩ := bnd h
  refine V_callV0 C (As := []) (rest := [.int (2 : Int32)]) (by decide +kernel) ok_yX1_litWeight mk_RX1_124 (cfX1_litWeight (l := E.l) (G := E.G) a0 h2) (q0 := 0) rfl rfl rfl rfl rfl rfl (Nat.le_of_ble_eq_true rfl) (Nat.le_of_ble_eq_true rfl) (Nat.le_of_ble_eq_true rfl) ?_
  show V E _ (wdH E.G a0 S0) 5 [(0, .ref (a0 0))] [.int q1, .int (2 : Int32)]
  refine V_pb C hn [(.imul, 1), (.aload_n 0, 1)] (pc' := 7) (ls' := [(0, .ref (a0 0))]) (st' := [.ref (a0 0), .int ((2 : Int32) * q1)]) (decB_ok (by decide +kernel)) rfl rfl ?_
  obtain ⟨q3, h4, h⟩ := bnd h
  refine V_callV0 C (As := []) (rest := [.int ((2 : Int32) * q1)]) (by decide +kernel) ok_yX1_weightInAll mk_RX1_127 (cfX1_weightInAll (l := E.l) (G := E.G) a0 h4) (q0 := 0) rfl rfl rfl rfl rfl rfl (Nat.le_of_ble_eq_true rfl) (Nat.le_of_ble_eq_true rfl) (Nat.le_of_ble_eq_true rfl) ?_
  show V E _ (wdH E.G a0 S0) 10 [(0, .ref (a0 0))] [.int q3, .int ((2 : Int32) * q1)]
  refine V_ic_le C (off := 7) (tgt := 17) (by decide +kernel) (by decide) h (fun _ h => ?_) (fun _ h => ?_)
  · refine V_pb C hn [(.iconst 0, 1)] (pc' := 18) (ls' := [(0, .ref (a0 0))]) (st' := [.int (0 : Int32)]) (decB_ok (by decide +kernel)) rfl rfl ?_
    have h := Option.some.inj h
    subst h
    exact V_iret C (v := (0 : Int32)) (by decide +kernel) nb0
  · refine V_pb C hn [(.iconst 1, 1)] (pc' := 14) (ls' := [(0, .ref (a0 0))]) (st' := [.int (1 : Int32)]) (decB_ok (by decide +kernel)) rfl rfl ?_
    refine V_goto C (off := 4) (tgt := 18) (by decide +kernel) (by decide) ?_
    have h := Option.some.inj h
    subst h
    exact V_iret C (v := (1 : Int32)) (by decide +kernel) nb1
set_option maxRecDepth 100000 in
set_option maxHeartbeats 400000 in
theorem cfX1_litCount_j31 {E : VE} (C : Ctx E cX1_litCount RX1 2 (some .int)) (hn : E.nL = 3) {a0 : Nat → Nat} {S0 : HallT} {v2 : Int32} {s0 : Int32} {s1 : Int32} {out : Int32} {k4 : Int32 → Int32 → Option (Int32)} (hk4 : ∀ (v1 : Int32) (v2 : Int32), k4 v1 v2 = some out → V E (QR E (some (.int out)) (wdH E.G a0 S0)) (wdH E.G a0 S0) 4 [(0, .ref (a0 0)), (1, .int v1), (2, .int v2)] []) (h : fX1_litCount_j31 k4 S0 v2 s0 s1 = some out) : V E (QR E (some (.int out)) (wdH E.G a0 S0)) (wdH E.G a0 S0) 31 [(0, .ref (a0 0)), (2, .int v2)] [.int s0, .int s1] := by
  unfold fX1_litCount_j31 at h
  refine V_pb C hn [(.iadd, 1), (.istore_n 1, 1), (.iinc 2 1, 3)] (pc' := 36) (ls' := [(0, .ref (a0 0)), (1, .int (s1 + s0)), (2, .int (v2 + (1 : Int32)))]) (st' := []) (decB_ok (by decide +kernel)) rfl rfl ?_
  refine V_goto C (off := -32) (tgt := 4) (by decide +kernel) (by decide) ?_
  refine V_sub (ls' := [(0, .ref (a0 0)), (1, .int (s1 + s0)), (2, .int (v2 + (1 : Int32)))]) rfl ?_
  exact hk4 _ _ h
set_option maxRecDepth 100000 in
set_option maxHeartbeats 400000 in
theorem cfX1_litCount_L4 {E : VE} (C : Ctx E cX1_litCount RX1 2 (some .int)) (hn : E.nL = 3) {a0 : Nat → Nat} {S0 : HallT} {out : Int32} : ∀ (n : Nat) (v1 : Int32) (v2 : Int32), fX1_litCount_L4 S0 n v1 v2 = some out → V E (QR E (some (.int out)) (wdH E.G a0 S0)) (wdH E.G a0 S0) 4 [(0, .ref (a0 0)), (1, .int v1), (2, .int v2)] [] := by
  intro n
  induction n with
  | zero =>
    intro v1 v2 h
    cases h
  | succ n ih =>
    intro v1 v2 h
    unfold fX1_litCount_L4 at h
    refine V_pb C hn [(.iload_n 2, 1), (.aload_n 0, 1)] (pc' := 6) (ls' := [(0, .ref (a0 0)), (1, .int v1), (2, .int v2)]) (st' := [.ref (a0 0), .int v2]) (decB_ok (by decide +kernel)) rfl rfl ?_
    refine V_get C (v := .int (h_count S0)) (by decide +kernel) 0 1 fk_RX1_41 rfl rfl ?_
    refine V_ic_ge C (off := 30) (tgt := 39) (by decide +kernel) (by decide) h (fun _ h => ?_) (fun _ h => ?_)
    · refine V_pb C hn [(.iload_n 1, 1)] (pc' := 40) (ls' := [(0, .ref (a0 0)), (1, .int v1), (2, .int v2)]) (st' := [.int v1]) (decB_ok (by decide +kernel)) rfl rfl ?_
      have h := Option.some.inj h
      subst h
      exact V_iret C (by decide +kernel) rfl
    · refine V_pb C hn [(.iload_n 1, 1), (.aload_n 0, 1), (.aload_n 0, 1)] (pc' := 15) (ls' := [(0, .ref (a0 0)), (1, .int v1), (2, .int v2)]) (st' := [.ref (a0 0), .ref (a0 0), .int v1]) (decB_ok (by decide +kernel)) rfl rfl ?_
      refine V_get C (v := .ref (a0 3)) (by decide +kernel) 0 4 fk_RX1_22 rfl rfl ?_
      refine V_pb C hn [(.iload_n 2, 1)] (pc' := 19) (ls' := [(0, .ref (a0 0)), (1, .int v1), (2, .int v2)]) (st' := [.int v2, .ref (a0 3), .ref (a0 0), .int v1]) (decB_ok (by decide +kernel)) rfl rfl ?_
      refine V_iald C (f := (h_cellOf S0)) (by decide +kernel) 3 rfl h (fun h => ?_)
      obtain ⟨q1, h2, h⟩ := bnd h
      refine V_callV0 C (As := [.int ((h_cellOf S0) (ix v2))]) (rest := [.int v1]) (by decide +kernel) ok_yX1_isLit mk_RX1_100 (cfX1_isLit (l := E.l) (G := E.G) a0 h2) (q0 := 0) rfl rfl rfl rfl rfl rfl (Nat.le_of_ble_eq_true rfl) (Nat.le_of_ble_eq_true rfl) (Nat.le_of_ble_eq_true rfl) ?_
      show V E _ (wdH E.G a0 S0) 23 [(0, .ref (a0 0)), (1, .int v1), (2, .int v2)] [.int q1, .int v1]
      refine V_if_eq C (off := 7) (tgt := 30) (by decide +kernel) (by decide) h (fun _ h => ?_) (fun _ h => ?_)
      · refine V_pb C hn [(.iconst 0, 1)] (pc' := 31) (ls' := [(0, .ref (a0 0)), (1, .int v1), (2, .int v2)]) (st' := [.int (0 : Int32), .int v1]) (decB_ok (by decide +kernel)) rfl rfl ?_
        refine V_sub (ls' := [(0, .ref (a0 0)), (2, .int v2)]) rfl ?_
        exact cfX1_litCount_j31 C hn (k4 := (fun v1 v2 => fX1_litCount_L4 S0 n v1 v2)) (fun v1 v2 h => ih v1 v2 h) h
      · refine V_pb C hn [(.iconst 1, 1)] (pc' := 27) (ls' := [(0, .ref (a0 0)), (1, .int v1), (2, .int v2)]) (st' := [.int (1 : Int32), .int v1]) (decB_ok (by decide +kernel)) rfl rfl ?_
        refine V_goto C (off := 4) (tgt := 31) (by decide +kernel) (by decide) ?_
        refine V_sub (ls' := [(0, .ref (a0 0)), (2, .int v2)]) rfl ?_
        exact cfX1_litCount_j31 C hn (k4 := (fun v1 v2 => fX1_litCount_L4 S0 n v1 v2)) (fun v1 v2 h => ih v1 v2 h) h
set_option maxRecDepth 100000 in
set_option maxHeartbeats 400000 in
theorem cfX1_litCount {l : Launch} {G : GG} (a0 : Nat → Nat) {S0 : HallT} {out : Int32} (h : fX1_litCount S0 = some out) : Con l G 2 yX1_litCount cX1_litCount 3 (some .int) [.ref (a0 0)] (wdH G a0 S0) (some (.int out)) (wdH G a0 S0) := by
  refine Con_of (by decide +kernel) (Nat.le_of_ble_eq_true rfl) (fun E hl hG hn C => ?_)
  subst hl
  subst hG
  have C : Ctx E cX1_litCount RX1 2 (some .int) := C
  show V E _ _ 0 [(0, .ref (a0 0))] []
  unfold fX1_litCount at h
  refine V_pb C hn [(.iconst 0, 1), (.istore_n 1, 1), (.iconst 0, 1), (.istore_n 2, 1)] (pc' := 4) (ls' := [(0, .ref (a0 0)), (1, .int (0 : Int32)), (2, .int (0 : Int32))]) (st' := []) (decB_ok (by decide +kernel)) rfl rfl ?_
  refine V_sub (ls' := [(0, .ref (a0 0)), (1, .int (0 : Int32)), (2, .int (0 : Int32))]) rfl ?_
  exact cfX1_litCount_L4 C hn FU _ _ h
set_option maxRecDepth 100000 in
set_option maxHeartbeats 400000 in
theorem cfX1_spread_L14 {E : VE} (C : Ctx E cX1_spread RX1 1 (some .int)) (hn : E.nL = 6) {a0 : Nat → Nat} {S0 : HallT} {out : Int32} {k4 : Int32 → Int32 → Option (Int32)} (hk4 : ∀ (v1 : Int32) (v2 : Int32), k4 v1 v2 = some out → V E (QR E (some (.int out)) (wdH E.G a0 S0)) (wdH E.G a0 S0) 4 [(0, .ref (a0 0)), (1, .int v1), (2, .int v2)] []) : ∀ (n : Nat) (v1 : Int32) (v2 : Int32) (v3 : Int32), fX1_spread_L14 k4 S0 n v1 v2 v3 = some out → V E (QR E (some (.int out)) (wdH E.G a0 S0)) (wdH E.G a0 S0) 14 [(0, .ref (a0 0)), (1, .int v1), (2, .int v2), (3, .int v3)] [] := by
  intro n
  induction n with
  | zero =>
    intro v1 v2 v3 h
    cases h
  | succ n ih =>
    intro v1 v2 v3 h
    unfold fX1_spread_L14 at h
    refine V_pb C hn [(.iload_n 3, 1), (.iload_n 2, 1)] (pc' := 16) (ls' := [(0, .ref (a0 0)), (1, .int v1), (2, .int v2), (3, .int v3)]) (st' := [.int v2, .int v3]) (decB_ok (by decide +kernel)) rfl rfl ?_
    refine V_ic_ge C (off := 67) (tgt := 83) (by decide +kernel) (by decide) h (fun _ h => ?_) (fun _ h => ?_)
    · refine V_pb C hn [(.iinc 2 1, 3)] (pc' := 86) (ls' := [(0, .ref (a0 0)), (1, .int v1), (2, .int (v2 + (1 : Int32))), (3, .int v3)]) (st' := []) (decB_ok (by decide +kernel)) rfl rfl ?_
      refine V_goto C (off := -82) (tgt := 4) (by decide +kernel) (by decide) ?_
      refine V_sub (ls' := [(0, .ref (a0 0)), (1, .int v1), (2, .int (v2 + (1 : Int32)))]) rfl ?_
      exact hk4 _ _ h
    · refine V_pb C hn [(.aload_n 0, 1)] (pc' := 20) (ls' := [(0, .ref (a0 0)), (1, .int v1), (2, .int v2), (3, .int v3)]) (st' := [.ref (a0 0)]) (decB_ok (by decide +kernel)) rfl rfl ?_
      refine V_get C (v := .ref (a0 3)) (by decide +kernel) 0 4 fk_RX1_22 rfl rfl ?_
      refine V_pb C hn [(.iload_n 2, 1)] (pc' := 24) (ls' := [(0, .ref (a0 0)), (1, .int v1), (2, .int v2), (3, .int v3)]) (st' := [.int v2, .ref (a0 3)]) (decB_ok (by decide +kernel)) rfl rfl ?_
      refine V_iald C (f := (h_cellOf S0)) (by decide +kernel) 3 rfl h (fun h => ?_)
      refine V_pb C hn [(.bipush 10, 2)] (pc' := 27) (ls' := [(0, .ref (a0 0)), (1, .int v1), (2, .int v2), (3, .int v3)]) (st' := [.int (10 : Int32), .int ((h_cellOf S0) (ix v2))]) (decB_ok (by decide +kernel)) rfl rfl ?_
      refine V_idiv C (by decide +kernel) (by decide) ?_
      refine V_pb C hn [(.aload_n 0, 1)] (pc' := 29) (ls' := [(0, .ref (a0 0)), (1, .int v1), (2, .int v2), (3, .int v3)]) (st' := [.ref (a0 0), .int (((h_cellOf S0) (ix v2)) / (10 : Int32))]) (decB_ok (by decide +kernel)) rfl rfl ?_
      refine V_get C (v := .ref (a0 3)) (by decide +kernel) 0 4 fk_RX1_22 rfl rfl ?_
      refine V_pb C hn [(.iload_n 3, 1)] (pc' := 33) (ls' := [(0, .ref (a0 0)), (1, .int v1), (2, .int v2), (3, .int v3)]) (st' := [.int v3, .ref (a0 3), .int (((h_cellOf S0) (ix v2)) / (10 : Int32))]) (decB_ok (by decide +kernel)) rfl rfl ?_
      refine V_iald C (f := (h_cellOf S0)) (by decide +kernel) 3 rfl h (fun h => ?_)
      refine V_pb C hn [(.bipush 10, 2)] (pc' := 36) (ls' := [(0, .ref (a0 0)), (1, .int v1), (2, .int v2), (3, .int v3)]) (st' := [.int (10 : Int32), .int ((h_cellOf S0) (ix v3)), .int (((h_cellOf S0) (ix v2)) / (10 : Int32))]) (decB_ok (by decide +kernel)) rfl rfl ?_
      refine V_idiv C (by decide +kernel) (by decide) ?_
      refine V_pb C hn [(.isub, 1)] (pc' := 38) (ls' := [(0, .ref (a0 0)), (1, .int v1), (2, .int v2), (3, .int v3)]) (st' := [.int ((((h_cellOf S0) (ix v2)) / (10 : Int32)) - (((h_cellOf S0) (ix v3)) / (10 : Int32)))]) (decB_ok (by decide +kernel)) rfl rfl ?_
      refine V_abs C (by decide +kernel) mk_RX1_130 (Nat.le_of_ble_eq_true rfl) (Nat.le_of_ble_eq_true rfl) ?_
      refine V_pb C hn [(.istore 4, 2), (.aload_n 0, 1)] (pc' := 44) (ls' := [(0, .ref (a0 0)), (1, .int v1), (2, .int v2), (3, .int v3), (4, .int (jabs ((((h_cellOf S0) (ix v2)) / (10 : Int32)) - (((h_cellOf S0) (ix v3)) / (10 : Int32)))))]) (st' := [.ref (a0 0)]) (decB_ok (by decide +kernel)) rfl rfl ?_
      refine V_get C (v := .ref (a0 3)) (by decide +kernel) 0 4 fk_RX1_22 rfl rfl ?_
      refine V_pb C hn [(.iload_n 2, 1)] (pc' := 48) (ls' := [(0, .ref (a0 0)), (1, .int v1), (2, .int v2), (3, .int v3), (4, .int (jabs ((((h_cellOf S0) (ix v2)) / (10 : Int32)) - (((h_cellOf S0) (ix v3)) / (10 : Int32)))))]) (st' := [.int v2, .ref (a0 3)]) (decB_ok (by decide +kernel)) rfl rfl ?_
      refine V_iald C (f := (h_cellOf S0)) (by decide +kernel) 3 rfl h (fun h => ?_)
      refine V_pb C hn [(.bipush 10, 2)] (pc' := 51) (ls' := [(0, .ref (a0 0)), (1, .int v1), (2, .int v2), (3, .int v3), (4, .int (jabs ((((h_cellOf S0) (ix v2)) / (10 : Int32)) - (((h_cellOf S0) (ix v3)) / (10 : Int32)))))]) (st' := [.int (10 : Int32), .int ((h_cellOf S0) (ix v2))]) (decB_ok (by decide +kernel)) rfl rfl ?_
      refine V_irem C (by decide +kernel) (by decide) ?_
      refine V_pb C hn [(.aload_n 0, 1)] (pc' := 53) (ls' := [(0, .ref (a0 0)), (1, .int v1), (2, .int v2), (3, .int v3), (4, .int (jabs ((((h_cellOf S0) (ix v2)) / (10 : Int32)) - (((h_cellOf S0) (ix v3)) / (10 : Int32)))))]) (st' := [.ref (a0 0), .int (irm ((h_cellOf S0) (ix v2)) (10 : Int32))]) (decB_ok (by decide +kernel)) rfl rfl ?_
      refine V_get C (v := .ref (a0 3)) (by decide +kernel) 0 4 fk_RX1_22 rfl rfl ?_
      refine V_pb C hn [(.iload_n 3, 1)] (pc' := 57) (ls' := [(0, .ref (a0 0)), (1, .int v1), (2, .int v2), (3, .int v3), (4, .int (jabs ((((h_cellOf S0) (ix v2)) / (10 : Int32)) - (((h_cellOf S0) (ix v3)) / (10 : Int32)))))]) (st' := [.int v3, .ref (a0 3), .int (irm ((h_cellOf S0) (ix v2)) (10 : Int32))]) (decB_ok (by decide +kernel)) rfl rfl ?_
      refine V_iald C (f := (h_cellOf S0)) (by decide +kernel) 3 rfl h (fun h => ?_)
      refine V_pb C hn [(.bipush 10, 2)] (pc' := 60) (ls' := [(0, .ref (a0 0)), (1, .int v1), (2, .int v2), (3, .int v3), (4, .int (jabs ((((h_cellOf S0) (ix v2)) / (10 : Int32)) - (((h_cellOf S0) (ix v3)) / (10 : Int32)))))]) (st' := [.int (10 : Int32), .int ((h_cellOf S0) (ix v3)), .int (irm ((h_cellOf S0) (ix v2)) (10 : Int32))]) (decB_ok (by decide +kernel)) rfl rfl ?_
      refine V_irem C (by decide +kernel) (by decide) ?_
      refine V_pb C hn [(.isub, 1)] (pc' := 62) (ls' := [(0, .ref (a0 0)), (1, .int v1), (2, .int v2), (3, .int v3), (4, .int (jabs ((((h_cellOf S0) (ix v2)) / (10 : Int32)) - (((h_cellOf S0) (ix v3)) / (10 : Int32)))))]) (st' := [.int ((irm ((h_cellOf S0) (ix v2)) (10 : Int32)) - (irm ((h_cellOf S0) (ix v3)) (10 : Int32)))]) (decB_ok (by decide +kernel)) rfl rfl ?_
      refine V_abs C (by decide +kernel) mk_RX1_130 (Nat.le_of_ble_eq_true rfl) (Nat.le_of_ble_eq_true rfl) ?_
      refine V_pb C hn [(.istore 5, 2), (.iload_n 1, 1), (.iload 4, 2), (.iload 5, 2), (.iadd, 1)] (pc' := 73) (ls' := [(0, .ref (a0 0)), (1, .int v1), (2, .int v2), (3, .int v3), (4, .int (jabs ((((h_cellOf S0) (ix v2)) / (10 : Int32)) - (((h_cellOf S0) (ix v3)) / (10 : Int32))))), (5, .int (jabs ((irm ((h_cellOf S0) (ix v2)) (10 : Int32)) - (irm ((h_cellOf S0) (ix v3)) (10 : Int32)))))]) (st' := [.int ((jabs ((((h_cellOf S0) (ix v2)) / (10 : Int32)) - (((h_cellOf S0) (ix v3)) / (10 : Int32)))) + (jabs ((irm ((h_cellOf S0) (ix v2)) (10 : Int32)) - (irm ((h_cellOf S0) (ix v3)) (10 : Int32))))), .int v1]) (decB_ok (by decide +kernel)) rfl rfl ?_
      refine V_max C (by decide +kernel) mk_RX1_133 (Nat.le_of_ble_eq_true rfl) (Nat.le_of_ble_eq_true rfl) ?_
      refine V_pb C hn [(.istore_n 1, 1), (.iinc 3 1, 3)] (pc' := 80) (ls' := [(0, .ref (a0 0)), (1, .int (jmax v1 ((jabs ((((h_cellOf S0) (ix v2)) / (10 : Int32)) - (((h_cellOf S0) (ix v3)) / (10 : Int32)))) + (jabs ((irm ((h_cellOf S0) (ix v2)) (10 : Int32)) - (irm ((h_cellOf S0) (ix v3)) (10 : Int32))))))), (2, .int v2), (3, .int (v3 + (1 : Int32))), (4, .int (jabs ((((h_cellOf S0) (ix v2)) / (10 : Int32)) - (((h_cellOf S0) (ix v3)) / (10 : Int32))))), (5, .int (jabs ((irm ((h_cellOf S0) (ix v2)) (10 : Int32)) - (irm ((h_cellOf S0) (ix v3)) (10 : Int32)))))]) (st' := []) (decB_ok (by decide +kernel)) rfl rfl ?_
      refine V_goto C (off := -66) (tgt := 14) (by decide +kernel) (by decide) ?_
      refine V_sub (ls' := [(0, .ref (a0 0)), (1, .int (jmax v1 ((jabs ((((h_cellOf S0) (ix v2)) / (10 : Int32)) - (((h_cellOf S0) (ix v3)) / (10 : Int32)))) + (jabs ((irm ((h_cellOf S0) (ix v2)) (10 : Int32)) - (irm ((h_cellOf S0) (ix v3)) (10 : Int32))))))), (2, .int v2), (3, .int (v3 + (1 : Int32)))]) rfl ?_
      exact ih _ _ _ h
set_option maxRecDepth 100000 in
set_option maxHeartbeats 400000 in
theorem cfX1_spread_L4 {E : VE} (C : Ctx E cX1_spread RX1 1 (some .int)) (hn : E.nL = 6) {a0 : Nat → Nat} {S0 : HallT} {out : Int32} : ∀ (n : Nat) (v1 : Int32) (v2 : Int32), fX1_spread_L4 S0 n v1 v2 = some out → V E (QR E (some (.int out)) (wdH E.G a0 S0)) (wdH E.G a0 S0) 4 [(0, .ref (a0 0)), (1, .int v1), (2, .int v2)] [] := by
  intro n
  induction n with
  | zero =>
    intro v1 v2 h
    cases h
  | succ n ih =>
    intro v1 v2 h
    unfold fX1_spread_L4 at h
    refine V_pb C hn [(.iload_n 2, 1), (.aload_n 0, 1)] (pc' := 6) (ls' := [(0, .ref (a0 0)), (1, .int v1), (2, .int v2)]) (st' := [.ref (a0 0), .int v2]) (decB_ok (by decide +kernel)) rfl rfl ?_
    refine V_get C (v := .int (h_count S0)) (by decide +kernel) 0 1 fk_RX1_41 rfl rfl ?_
    refine V_ic_ge C (off := 80) (tgt := 89) (by decide +kernel) (by decide) h (fun _ h => ?_) (fun _ h => ?_)
    · refine V_pb C hn [(.iload_n 1, 1)] (pc' := 90) (ls' := [(0, .ref (a0 0)), (1, .int v1), (2, .int v2)]) (st' := [.int v1]) (decB_ok (by decide +kernel)) rfl rfl ?_
      have h := Option.some.inj h
      subst h
      exact V_iret C (by decide +kernel) rfl
    · refine V_pb C hn [(.iconst 0, 1), (.istore_n 3, 1)] (pc' := 14) (ls' := [(0, .ref (a0 0)), (1, .int v1), (2, .int v2), (3, .int (0 : Int32))]) (st' := []) (decB_ok (by decide +kernel)) rfl rfl ?_
      refine V_sub (ls' := [(0, .ref (a0 0)), (1, .int v1), (2, .int v2), (3, .int (0 : Int32))]) rfl ?_
      exact cfX1_spread_L14 C hn (k4 := (fun v1 v2 => fX1_spread_L4 S0 n v1 v2)) (fun v1 v2 h => ih v1 v2 h) FU _ _ _ h
set_option maxRecDepth 100000 in
set_option maxHeartbeats 400000 in
theorem cfX1_spread {l : Launch} {G : GG} (a0 : Nat → Nat) {S0 : HallT} {out : Int32} (h : fX1_spread S0 = some out) : Con l G 1 yX1_spread cX1_spread 6 (some .int) [.ref (a0 0)] (wdH G a0 S0) (some (.int out)) (wdH G a0 S0) := by
  refine Con_of (by decide +kernel) (Nat.le_of_ble_eq_true rfl) (fun E hl hG hn C => ?_)
  subst hl
  subst hG
  have C : Ctx E cX1_spread RX1 1 (some .int) := C
  show V E _ _ 0 [(0, .ref (a0 0))] []
  unfold fX1_spread at h
  refine V_pb C hn [(.iconst 0, 1), (.istore_n 1, 1), (.iconst 0, 1), (.istore_n 2, 1)] (pc' := 4) (ls' := [(0, .ref (a0 0)), (1, .int (0 : Int32)), (2, .int (0 : Int32))]) (st' := []) (decB_ok (by decide +kernel)) rfl rfl ?_
  refine V_sub (ls' := [(0, .ref (a0 0)), (1, .int (0 : Int32)), (2, .int (0 : Int32))]) rfl ?_
  exact cfX1_spread_L4 C hn FU _ _ h
set_option maxRecDepth 100000 in
set_option maxHeartbeats 400000 in
theorem cfX1_middle_j46 {E : VE} (C : Ctx E cX1_middle RX1 0 (some .int)) (hn : E.nL = 4) {a0 : Nat → Nat} {p1 : Int32} {S0 : HallT} {v2 : Int32} {out : Int32} (h : fX1_middle_j46 p1 S0 v2 = some out) : V E (QR E (some (.int out)) (wdH E.G a0 S0)) (wdH E.G a0 S0) 46 [(0, .ref (a0 0)), (2, .int v2)] [] := by
  unfold fX1_middle_j46 at h
  refine V_pb C hn [(.aload_n 0, 1)] (pc' := 47) (ls' := [(0, .ref (a0 0)), (2, .int v2)]) (st' := [.ref (a0 0)]) (decB_ok (by decide +kernel)) rfl rfl ?_
  refine V_get C (v := .int (h_count S0)) (by decide +kernel) 0 1 fk_RX1_41 rfl rfl ?_
  refine V_if_le C (off := 16) (tgt := 66) (by decide +kernel) (by decide) h (fun _ h => ?_) (fun _ h => ?_)
  · refine V_pb C hn [(.iconst 0, 1)] (pc' := 67) (ls' := [(0, .ref (a0 0)), (2, .int v2)]) (st' := [.int (0 : Int32)]) (decB_ok (by decide +kernel)) rfl rfl ?_
    have h := Option.some.inj h
    subst h
    exact V_iret C (by decide +kernel) rfl
  · refine V_pb C hn [(.sipush 1000, 3), (.iload_n 2, 1), (.imul, 1), (.aload_n 0, 1)] (pc' := 59) (ls' := [(0, .ref (a0 0)), (2, .int v2)]) (st' := [.ref (a0 0), .int ((1000 : Int32) * v2)]) (decB_ok (by decide +kernel)) rfl rfl ?_
    refine V_get C (v := .int (h_count S0)) (by decide +kernel) 0 1 fk_RX1_41 rfl rfl ?_
    obtain ⟨hd1, h⟩ := dv_some h
    refine V_idiv C (by decide +kernel) hd1 ?_
    refine V_goto C (off := 4) (tgt := 67) (by decide +kernel) (by decide) ?_
    have h := Option.some.inj h
    subst h
    exact V_iret C (by decide +kernel) rfl
set_option maxRecDepth 100000 in
set_option maxHeartbeats 400000 in
theorem cfX1_middle_j38 {E : VE} (C : Ctx E cX1_middle RX1 0 (some .int)) (hn : E.nL = 4) {a0 : Nat → Nat} {p1 : Int32} {S0 : HallT} {v3 : Int32} {s0 : Int32} {s1 : Int32} {out : Int32} {k4 : Int32 → Int32 → Option (Int32)} (hk4 : ∀ (v2 : Int32) (v3 : Int32), k4 v2 v3 = some out → V E (QR E (some (.int out)) (wdH E.G a0 S0)) (wdH E.G a0 S0) 4 [(0, .ref (a0 0)), (1, .int p1), (2, .int v2), (3, .int v3)] []) (h : fX1_middle_j38 k4 p1 S0 v3 s0 s1 = some out) : V E (QR E (some (.int out)) (wdH E.G a0 S0)) (wdH E.G a0 S0) 38 [(0, .ref (a0 0)), (1, .int p1), (3, .int v3)] [.int s0, .int s1] := by
  unfold fX1_middle_j38 at h
  refine V_pb C hn [(.iadd, 1), (.istore_n 2, 1), (.iinc 3 1, 3)] (pc' := 43) (ls' := [(0, .ref (a0 0)), (1, .int p1), (2, .int (s1 + s0)), (3, .int (v3 + (1 : Int32)))]) (st' := []) (decB_ok (by decide +kernel)) rfl rfl ?_
  refine V_goto C (off := -39) (tgt := 4) (by decide +kernel) (by decide) ?_
  refine V_sub (ls' := [(0, .ref (a0 0)), (1, .int p1), (2, .int (s1 + s0)), (3, .int (v3 + (1 : Int32)))]) rfl ?_
  exact hk4 _ _ h
set_option maxRecDepth 100000 in
set_option maxHeartbeats 400000 in
theorem cfX1_middle_L4 {E : VE} (C : Ctx E cX1_middle RX1 0 (some .int)) (hn : E.nL = 4) {a0 : Nat → Nat} {p1 : Int32} {S0 : HallT} {out : Int32} : ∀ (n : Nat) (v2 : Int32) (v3 : Int32), fX1_middle_L4 p1 S0 n v2 v3 = some out → V E (QR E (some (.int out)) (wdH E.G a0 S0)) (wdH E.G a0 S0) 4 [(0, .ref (a0 0)), (1, .int p1), (2, .int v2), (3, .int v3)] [] := by
  intro n
  induction n with
  | zero =>
    intro v2 v3 h
    cases h
  | succ n ih =>
    intro v2 v3 h
    unfold fX1_middle_L4 at h
    refine V_pb C hn [(.iload_n 3, 1), (.aload_n 0, 1)] (pc' := 6) (ls' := [(0, .ref (a0 0)), (1, .int p1), (2, .int v2), (3, .int v3)]) (st' := [.ref (a0 0), .int v3]) (decB_ok (by decide +kernel)) rfl rfl ?_
    refine V_get C (v := .int (h_count S0)) (by decide +kernel) 0 1 fk_RX1_41 rfl rfl ?_
    refine V_ic_ge C (off := 37) (tgt := 46) (by decide +kernel) (by decide) h (fun _ h => ?_) (fun _ h => ?_)
    · refine V_sub (ls' := [(0, .ref (a0 0)), (2, .int v2)]) rfl ?_
      exact cfX1_middle_j46 C hn h
    · refine V_pb C hn [(.iload_n 2, 1), (.iload_n 1, 1)] (pc' := 14) (ls' := [(0, .ref (a0 0)), (1, .int p1), (2, .int v2), (3, .int v3)]) (st' := [.int p1, .int v2]) (decB_ok (by decide +kernel)) rfl rfl ?_
      refine V_if_eq C (off := 15) (tgt := 29) (by decide +kernel) (by decide) h (fun _ h => ?_) (fun _ h => ?_)
      · refine V_pb C hn [(.aload_n 0, 1)] (pc' := 30) (ls' := [(0, .ref (a0 0)), (1, .int p1), (2, .int v2), (3, .int v3)]) (st' := [.ref (a0 0), .int v2]) (decB_ok (by decide +kernel)) rfl rfl ?_
        refine V_get C (v := .ref (a0 3)) (by decide +kernel) 0 4 fk_RX1_22 rfl rfl ?_
        refine V_pb C hn [(.iload_n 3, 1)] (pc' := 34) (ls' := [(0, .ref (a0 0)), (1, .int p1), (2, .int v2), (3, .int v3)]) (st' := [.int v3, .ref (a0 3), .int v2]) (decB_ok (by decide +kernel)) rfl rfl ?_
        refine V_iald C (f := (h_cellOf S0)) (by decide +kernel) 3 rfl h (fun h => ?_)
        refine V_pb C hn [(.bipush 10, 2)] (pc' := 37) (ls' := [(0, .ref (a0 0)), (1, .int p1), (2, .int v2), (3, .int v3)]) (st' := [.int (10 : Int32), .int ((h_cellOf S0) (ix v3)), .int v2]) (decB_ok (by decide +kernel)) rfl rfl ?_
        refine V_irem C (by decide +kernel) (by decide) ?_
        refine V_sub (ls' := [(0, .ref (a0 0)), (1, .int p1), (3, .int v3)]) rfl ?_
        exact cfX1_middle_j38 C hn (k4 := (fun v2 v3 => fX1_middle_L4 p1 S0 n v2 v3)) (fun v2 v3 h => ih v2 v3 h) h
      · refine V_pb C hn [(.aload_n 0, 1)] (pc' := 18) (ls' := [(0, .ref (a0 0)), (1, .int p1), (2, .int v2), (3, .int v3)]) (st' := [.ref (a0 0), .int v2]) (decB_ok (by decide +kernel)) rfl rfl ?_
        refine V_get C (v := .ref (a0 3)) (by decide +kernel) 0 4 fk_RX1_22 rfl rfl ?_
        refine V_pb C hn [(.iload_n 3, 1)] (pc' := 22) (ls' := [(0, .ref (a0 0)), (1, .int p1), (2, .int v2), (3, .int v3)]) (st' := [.int v3, .ref (a0 3), .int v2]) (decB_ok (by decide +kernel)) rfl rfl ?_
        refine V_iald C (f := (h_cellOf S0)) (by decide +kernel) 3 rfl h (fun h => ?_)
        refine V_pb C hn [(.bipush 10, 2)] (pc' := 25) (ls' := [(0, .ref (a0 0)), (1, .int p1), (2, .int v2), (3, .int v3)]) (st' := [.int (10 : Int32), .int ((h_cellOf S0) (ix v3)), .int v2]) (decB_ok (by decide +kernel)) rfl rfl ?_
        refine V_idiv C (by decide +kernel) (by decide) ?_
        refine V_goto C (off := 12) (tgt := 38) (by decide +kernel) (by decide) ?_
        refine V_sub (ls' := [(0, .ref (a0 0)), (1, .int p1), (3, .int v3)]) rfl ?_
        exact cfX1_middle_j38 C hn (k4 := (fun v2 v3 => fX1_middle_L4 p1 S0 n v2 v3)) (fun v2 v3 h => ih v2 v3 h) h
set_option maxRecDepth 100000 in
set_option maxHeartbeats 400000 in
theorem cfX1_middle {l : Launch} {G : GG} (a0 : Nat → Nat) {p1 : Int32} {S0 : HallT} {out : Int32} (h : fX1_middle p1 S0 = some out) : Con l G 0 yX1_middle cX1_middle 4 (some .int) [.ref (a0 0), .int p1] (wdH G a0 S0) (some (.int out)) (wdH G a0 S0) := by
  refine Con_of (by decide +kernel) (Nat.le_of_ble_eq_true rfl) (fun E hl hG hn C => ?_)
  subst hl
  subst hG
  have C : Ctx E cX1_middle RX1 0 (some .int) := C
  show V E _ _ 0 [(0, .ref (a0 0)), (1, .int p1)] []
  unfold fX1_middle at h
  refine V_pb C hn [(.iconst 0, 1), (.istore_n 2, 1), (.iconst 0, 1), (.istore_n 3, 1)] (pc' := 4) (ls' := [(0, .ref (a0 0)), (1, .int p1), (2, .int (0 : Int32)), (3, .int (0 : Int32))]) (st' := []) (decB_ok (by decide +kernel)) rfl rfl ?_
  refine V_sub (ls' := [(0, .ref (a0 0)), (1, .int p1), (2, .int (0 : Int32)), (3, .int (0 : Int32))]) rfl ?_
  exact cfX1_middle_L4 C hn FU _ _ h
set_option maxRecDepth 100000 in
set_option maxHeartbeats 400000 in
theorem cfX1_countIn_j28 {E : VE} (C : Ctx E cX1_countIn RX1 0 (some .int)) (hn : E.nL = 4) {a0 : Nat → Nat} {p1 : Int32} {S0 : HallT} {v3 : Int32} {s0 : Int32} {s1 : Int32} {out : Int32} {k4 : Int32 → Int32 → Option (Int32)} (hk4 : ∀ (v2 : Int32) (v3 : Int32), k4 v2 v3 = some out → V E (QR E (some (.int out)) (wdH E.G a0 S0)) (wdH E.G a0 S0) 4 [(0, .ref (a0 0)), (1, .int p1), (2, .int v2), (3, .int v3)] []) (h : fX1_countIn_j28 k4 p1 S0 v3 s0 s1 = some out) : V E (QR E (some (.int out)) (wdH E.G a0 S0)) (wdH E.G a0 S0) 28 [(0, .ref (a0 0)), (1, .int p1), (3, .int v3)] [.int s0, .int s1] := by
  unfold fX1_countIn_j28 at h
  refine V_pb C hn [(.iadd, 1), (.istore_n 2, 1), (.iinc 3 1, 3)] (pc' := 33) (ls' := [(0, .ref (a0 0)), (1, .int p1), (2, .int (s1 + s0)), (3, .int (v3 + (1 : Int32)))]) (st' := []) (decB_ok (by decide +kernel)) rfl rfl ?_
  refine V_goto C (off := -29) (tgt := 4) (by decide +kernel) (by decide) ?_
  refine V_sub (ls' := [(0, .ref (a0 0)), (1, .int p1), (2, .int (s1 + s0)), (3, .int (v3 + (1 : Int32)))]) rfl ?_
  exact hk4 _ _ h
set_option maxRecDepth 100000 in
set_option maxHeartbeats 400000 in
theorem cfX1_countIn_L4 {E : VE} (C : Ctx E cX1_countIn RX1 0 (some .int)) (hn : E.nL = 4) {a0 : Nat → Nat} {p1 : Int32} {S0 : HallT} {out : Int32} : ∀ (n : Nat) (v2 : Int32) (v3 : Int32), fX1_countIn_L4 p1 S0 n v2 v3 = some out → V E (QR E (some (.int out)) (wdH E.G a0 S0)) (wdH E.G a0 S0) 4 [(0, .ref (a0 0)), (1, .int p1), (2, .int v2), (3, .int v3)] [] := by
  intro n
  induction n with
  | zero =>
    intro v2 v3 h
    cases h
  | succ n ih =>
    intro v2 v3 h
    unfold fX1_countIn_L4 at h
    refine V_pb C hn [(.iload_n 3, 1), (.aload_n 0, 1)] (pc' := 6) (ls' := [(0, .ref (a0 0)), (1, .int p1), (2, .int v2), (3, .int v3)]) (st' := [.ref (a0 0), .int v3]) (decB_ok (by decide +kernel)) rfl rfl ?_
    refine V_get C (v := .int (h_count S0)) (by decide +kernel) 0 1 fk_RX1_41 rfl rfl ?_
    refine V_ic_ge C (off := 27) (tgt := 36) (by decide +kernel) (by decide) h (fun _ h => ?_) (fun _ h => ?_)
    · refine V_pb C hn [(.iload_n 2, 1)] (pc' := 37) (ls' := [(0, .ref (a0 0)), (1, .int p1), (2, .int v2), (3, .int v3)]) (st' := [.int v2]) (decB_ok (by decide +kernel)) rfl rfl ?_
      have h := Option.some.inj h
      subst h
      exact V_iret C (by decide +kernel) rfl
    · refine V_pb C hn [(.iload_n 2, 1), (.aload_n 0, 1)] (pc' := 14) (ls' := [(0, .ref (a0 0)), (1, .int p1), (2, .int v2), (3, .int v3)]) (st' := [.ref (a0 0), .int v2]) (decB_ok (by decide +kernel)) rfl rfl ?_
      refine V_get C (v := .ref (a0 3)) (by decide +kernel) 0 4 fk_RX1_22 rfl rfl ?_
      refine V_pb C hn [(.iload_n 3, 1)] (pc' := 18) (ls' := [(0, .ref (a0 0)), (1, .int p1), (2, .int v2), (3, .int v3)]) (st' := [.int v3, .ref (a0 3), .int v2]) (decB_ok (by decide +kernel)) rfl rfl ?_
      refine V_iald C (f := (h_cellOf S0)) (by decide +kernel) 3 rfl h (fun h => ?_)
      refine V_pb C hn [(.iload_n 1, 1)] (pc' := 20) (ls' := [(0, .ref (a0 0)), (1, .int p1), (2, .int v2), (3, .int v3)]) (st' := [.int p1, .int ((h_cellOf S0) (ix v3)), .int v2]) (decB_ok (by decide +kernel)) rfl rfl ?_
      refine V_ic_ne C (off := 7) (tgt := 27) (by decide +kernel) (by decide) h (fun _ h => ?_) (fun _ h => ?_)
      · refine V_pb C hn [(.iconst 1, 1)] (pc' := 24) (ls' := [(0, .ref (a0 0)), (1, .int p1), (2, .int v2), (3, .int v3)]) (st' := [.int (1 : Int32), .int v2]) (decB_ok (by decide +kernel)) rfl rfl ?_
        refine V_goto C (off := 4) (tgt := 28) (by decide +kernel) (by decide) ?_
        refine V_sub (ls' := [(0, .ref (a0 0)), (1, .int p1), (3, .int v3)]) rfl ?_
        exact cfX1_countIn_j28 C hn (k4 := (fun v2 v3 => fX1_countIn_L4 p1 S0 n v2 v3)) (fun v2 v3 h => ih v2 v3 h) h
      · refine V_pb C hn [(.iconst 0, 1)] (pc' := 28) (ls' := [(0, .ref (a0 0)), (1, .int p1), (2, .int v2), (3, .int v3)]) (st' := [.int (0 : Int32), .int v2]) (decB_ok (by decide +kernel)) rfl rfl ?_
        refine V_sub (ls' := [(0, .ref (a0 0)), (1, .int p1), (3, .int v3)]) rfl ?_
        exact cfX1_countIn_j28 C hn (k4 := (fun v2 v3 => fX1_countIn_L4 p1 S0 n v2 v3)) (fun v2 v3 h => ih v2 v3 h) h
set_option maxRecDepth 100000 in
set_option maxHeartbeats 400000 in
theorem cfX1_countIn {l : Launch} {G : GG} (a0 : Nat → Nat) {p1 : Int32} {S0 : HallT} {out : Int32} (h : fX1_countIn p1 S0 = some out) : Con l G 0 yX1_countIn cX1_countIn 4 (some .int) [.ref (a0 0), .int p1] (wdH G a0 S0) (some (.int out)) (wdH G a0 S0) := by
  refine Con_of (by decide +kernel) (Nat.le_of_ble_eq_true rfl) (fun E hl hG hn C => ?_)
  subst hl
  subst hG
  have C : Ctx E cX1_countIn RX1 0 (some .int) := C
  show V E _ _ 0 [(0, .ref (a0 0)), (1, .int p1)] []
  unfold fX1_countIn at h
  refine V_pb C hn [(.iconst 0, 1), (.istore_n 2, 1), (.iconst 0, 1), (.istore_n 3, 1)] (pc' := 4) (ls' := [(0, .ref (a0 0)), (1, .int p1), (2, .int (0 : Int32)), (3, .int (0 : Int32))]) (st' := []) (decB_ok (by decide +kernel)) rfl rfl ?_
  refine V_sub (ls' := [(0, .ref (a0 0)), (1, .int p1), (2, .int (0 : Int32)), (3, .int (0 : Int32))]) rfl ?_
  exact cfX1_countIn_L4 C hn FU _ _ h
set_option maxRecDepth 100000 in
set_option maxHeartbeats 400000 in
theorem cfX1_standsAs_L2 {E : VE} (C : Ctx E cX1_standsAs RX1 0 (some .boolean)) (hn : E.nL = 3) {a0 : Nat → Nat} {a1 : Nat → Nat} {S0 : HallT} {S1 : HallT} {out : Int32} : ∀ (n : Nat) (v2 : Int32), fX1_standsAs_L2 S0 S1 n v2 = some out → V E (QR E (some (.int out)) (wdH E.G a0 S0 ++ wdH E.G a1 S1)) (wdH E.G a0 S0 ++ wdH E.G a1 S1) 2 [(0, .ref (a0 0)), (1, .ref (a1 0)), (2, .int v2)] [] := by
  intro n
  induction n with
  | zero =>
    intro v2 h
    cases h
  | succ n ih =>
    intro v2 h
    unfold fX1_standsAs_L2 at h
    refine V_pb C hn [(.iload_n 2, 1), (.aload_n 0, 1)] (pc' := 4) (ls' := [(0, .ref (a0 0)), (1, .ref (a1 0)), (2, .int v2)]) (st' := [.ref (a0 0), .int v2]) (decB_ok (by decide +kernel)) rfl rfl ?_
    refine V_get C (v := .int (h_count S0)) (by decide +kernel) 0 1 fk_RX1_41 rfl rfl ?_
    refine V_ic_ge C (off := 26) (tgt := 33) (by decide +kernel) (by decide) h (fun _ h => ?_) (fun _ h => ?_)
    · refine V_pb C hn [(.iconst 1, 1)] (pc' := 34) (ls' := [(0, .ref (a0 0)), (1, .ref (a1 0)), (2, .int v2)]) (st' := [.int (1 : Int32)]) (decB_ok (by decide +kernel)) rfl rfl ?_
      have h := Option.some.inj h
      subst h
      exact V_iret C (v := (1 : Int32)) (by decide +kernel) nb1
    · refine V_pb C hn [(.aload_n 0, 1)] (pc' := 11) (ls' := [(0, .ref (a0 0)), (1, .ref (a1 0)), (2, .int v2)]) (st' := [.ref (a0 0)]) (decB_ok (by decide +kernel)) rfl rfl ?_
      refine V_get C (v := .ref (a0 3)) (by decide +kernel) 0 4 fk_RX1_22 rfl rfl ?_
      refine V_pb C hn [(.iload_n 2, 1)] (pc' := 15) (ls' := [(0, .ref (a0 0)), (1, .ref (a1 0)), (2, .int v2)]) (st' := [.int v2, .ref (a0 3)]) (decB_ok (by decide +kernel)) rfl rfl ?_
      refine V_iald C (f := (h_cellOf S0)) (by decide +kernel) 3 rfl h (fun h => ?_)
      refine V_pb C hn [(.aload_n 1, 1)] (pc' := 17) (ls' := [(0, .ref (a0 0)), (1, .ref (a1 0)), (2, .int v2)]) (st' := [.ref (a1 0), .int ((h_cellOf S0) (ix v2))]) (decB_ok (by decide +kernel)) rfl rfl ?_
      refine V_get C (v := .ref (a1 3)) (by decide +kernel) 4 4 fk_RX1_22 rfl rfl ?_
      refine V_pb C hn [(.iload_n 2, 1)] (pc' := 21) (ls' := [(0, .ref (a0 0)), (1, .ref (a1 0)), (2, .int v2)]) (st' := [.int v2, .ref (a1 3), .int ((h_cellOf S0) (ix v2))]) (decB_ok (by decide +kernel)) rfl rfl ?_
      refine V_iald C (f := (h_cellOf S1)) (by decide +kernel) 7 rfl h (fun h => ?_)
      refine V_ic_eq C (off := 5) (tgt := 27) (by decide +kernel) (by decide) h (fun _ h => ?_) (fun _ h => ?_)
      · refine V_pb C hn [(.iinc 2 1, 3)] (pc' := 30) (ls' := [(0, .ref (a0 0)), (1, .ref (a1 0)), (2, .int (v2 + (1 : Int32)))]) (st' := []) (decB_ok (by decide +kernel)) rfl rfl ?_
        refine V_goto C (off := -28) (tgt := 2) (by decide +kernel) (by decide) ?_
        refine V_sub (ls' := [(0, .ref (a0 0)), (1, .ref (a1 0)), (2, .int (v2 + (1 : Int32)))]) rfl ?_
        exact ih _ h
      · refine V_pb C hn [(.iconst 0, 1)] (pc' := 26) (ls' := [(0, .ref (a0 0)), (1, .ref (a1 0)), (2, .int v2)]) (st' := [.int (0 : Int32)]) (decB_ok (by decide +kernel)) rfl rfl ?_
        have h := Option.some.inj h
        subst h
        exact V_iret C (v := (0 : Int32)) (by decide +kernel) nb0
set_option maxRecDepth 100000 in
set_option maxHeartbeats 400000 in
theorem cfX1_standsAs {l : Launch} {G : GG} (a0 : Nat → Nat) (a1 : Nat → Nat) {S0 : HallT} {S1 : HallT} {out : Int32} (h : fX1_standsAs S0 S1 = some out) : Con l G 0 yX1_standsAs cX1_standsAs 3 (some .boolean) [.ref (a0 0), .ref (a1 0)] (wdH G a0 S0 ++ wdH G a1 S1) (some (.int out)) (wdH G a0 S0 ++ wdH G a1 S1) := by
  refine Con_of (by decide +kernel) (Nat.le_of_ble_eq_true rfl) (fun E hl hG hn C => ?_)
  subst hl
  subst hG
  have C : Ctx E cX1_standsAs RX1 0 (some .boolean) := C
  show V E _ _ 0 [(0, .ref (a0 0)), (1, .ref (a1 0))] []
  unfold fX1_standsAs at h
  refine V_pb C hn [(.iconst 0, 1), (.istore_n 2, 1)] (pc' := 2) (ls' := [(0, .ref (a0 0)), (1, .ref (a1 0)), (2, .int (0 : Int32))]) (st' := []) (decB_ok (by decide +kernel)) rfl rfl ?_
  refine V_sub (ls' := [(0, .ref (a0 0)), (1, .ref (a1 0)), (2, .int (0 : Int32))]) rfl ?_
  exact cfX1_standsAs_L2 C hn FU _ h
set_option maxRecDepth 100000 in
set_option maxHeartbeats 400000 in
theorem cfX1_isAtWall {l : Launch} {G : GG} (a0 : Nat → Nat) {p1 : Int32} {S0 : HallT} {out : Int32} (h : fX1_isAtWall p1 S0 = some out) : Con l G 0 yX1_isAtWall cX1_isAtWall 4 (some .boolean) [.ref (a0 0), .int p1] (wdH G a0 S0) (some (.int out)) (wdH G a0 S0) := by
  refine Con_of (by decide +kernel) (Nat.le_of_ble_eq_true rfl) (fun E hl hG hn C => ?_)
  subst hl
  subst hG
  have C : Ctx E cX1_isAtWall RX1 0 (some .boolean) := C
  show V E _ _ 0 [(0, .ref (a0 0)), (1, .int p1)] []
  unfold fX1_isAtWall at h
  refine V_pb C hn [(.iload_n 1, 1), (.bipush 10, 2)] (pc' := 3) (ls' := [(0, .ref (a0 0)), (1, .int p1)]) (st' := [.int (10 : Int32), .int p1]) (decB_ok (by decide +kernel)) rfl rfl ?_
  refine V_idiv C (by decide +kernel) (by decide) ?_
  refine V_pb C hn [(.istore_n 2, 1), (.iload_n 1, 1), (.bipush 10, 2)] (pc' := 8) (ls' := [(0, .ref (a0 0)), (1, .int p1), (2, .int (p1 / (10 : Int32)))]) (st' := [.int (10 : Int32), .int p1]) (decB_ok (by decide +kernel)) rfl rfl ?_
  refine V_irem C (by decide +kernel) (by decide) ?_
  refine V_pb C hn [(.istore_n 3, 1), (.iload_n 2, 1)] (pc' := 11) (ls' := [(0, .ref (a0 0)), (1, .int p1), (2, .int (p1 / (10 : Int32))), (3, .int (irm p1 (10 : Int32)))]) (st' := [.int (p1 / (10 : Int32))]) (decB_ok (by decide +kernel)) rfl rfl ?_
  refine V_if_eq C (off := 27) (tgt := 38) (by decide +kernel) (by decide) h (fun _ h => ?_) (fun _ h => ?_)
  · refine V_pb C hn [(.iconst 1, 1)] (pc' := 39) (ls' := [(0, .ref (a0 0)), (1, .int p1), (2, .int (p1 / (10 : Int32))), (3, .int (irm p1 (10 : Int32)))]) (st' := [.int (1 : Int32)]) (decB_ok (by decide +kernel)) rfl rfl ?_
    refine V_goto C (off := 4) (tgt := 43) (by decide +kernel) (by decide) ?_
    have h := Option.some.inj h
    subst h
    exact V_iret C (v := (1 : Int32)) (by decide +kernel) nb1
  · refine V_pb C hn [(.iload_n 2, 1), (.aload_n 0, 1)] (pc' := 16) (ls' := [(0, .ref (a0 0)), (1, .int p1), (2, .int (p1 / (10 : Int32))), (3, .int (irm p1 (10 : Int32)))]) (st' := [.ref (a0 0), .int (p1 / (10 : Int32))]) (decB_ok (by decide +kernel)) rfl rfl ?_
    refine V_get C (v := .int (h_side S0)) (by decide +kernel) 0 0 fk_RX1_9 rfl rfl ?_
    refine V_pb C hn [(.iconst 1, 1), (.isub, 1)] (pc' := 21) (ls' := [(0, .ref (a0 0)), (1, .int p1), (2, .int (p1 / (10 : Int32))), (3, .int (irm p1 (10 : Int32)))]) (st' := [.int ((h_side S0) - (1 : Int32)), .int (p1 / (10 : Int32))]) (decB_ok (by decide +kernel)) rfl rfl ?_
    refine V_ic_eq C (off := 17) (tgt := 38) (by decide +kernel) (by decide) h (fun _ h => ?_) (fun _ h => ?_)
    · refine V_pb C hn [(.iconst 1, 1)] (pc' := 39) (ls' := [(0, .ref (a0 0)), (1, .int p1), (2, .int (p1 / (10 : Int32))), (3, .int (irm p1 (10 : Int32)))]) (st' := [.int (1 : Int32)]) (decB_ok (by decide +kernel)) rfl rfl ?_
      refine V_goto C (off := 4) (tgt := 43) (by decide +kernel) (by decide) ?_
      have h := Option.some.inj h
      subst h
      exact V_iret C (v := (1 : Int32)) (by decide +kernel) nb1
    · refine V_pb C hn [(.iload_n 3, 1)] (pc' := 25) (ls' := [(0, .ref (a0 0)), (1, .int p1), (2, .int (p1 / (10 : Int32))), (3, .int (irm p1 (10 : Int32)))]) (st' := [.int (irm p1 (10 : Int32))]) (decB_ok (by decide +kernel)) rfl rfl ?_
      refine V_if_eq C (off := 13) (tgt := 38) (by decide +kernel) (by decide) h (fun _ h => ?_) (fun _ h => ?_)
      · refine V_pb C hn [(.iconst 1, 1)] (pc' := 39) (ls' := [(0, .ref (a0 0)), (1, .int p1), (2, .int (p1 / (10 : Int32))), (3, .int (irm p1 (10 : Int32)))]) (st' := [.int (1 : Int32)]) (decB_ok (by decide +kernel)) rfl rfl ?_
        refine V_goto C (off := 4) (tgt := 43) (by decide +kernel) (by decide) ?_
        have h := Option.some.inj h
        subst h
        exact V_iret C (v := (1 : Int32)) (by decide +kernel) nb1
      · refine V_pb C hn [(.iload_n 3, 1), (.aload_n 0, 1)] (pc' := 30) (ls' := [(0, .ref (a0 0)), (1, .int p1), (2, .int (p1 / (10 : Int32))), (3, .int (irm p1 (10 : Int32)))]) (st' := [.ref (a0 0), .int (irm p1 (10 : Int32))]) (decB_ok (by decide +kernel)) rfl rfl ?_
        refine V_get C (v := .int (h_side S0)) (by decide +kernel) 0 0 fk_RX1_9 rfl rfl ?_
        refine V_pb C hn [(.iconst 1, 1), (.isub, 1)] (pc' := 35) (ls' := [(0, .ref (a0 0)), (1, .int p1), (2, .int (p1 / (10 : Int32))), (3, .int (irm p1 (10 : Int32)))]) (st' := [.int ((h_side S0) - (1 : Int32)), .int (irm p1 (10 : Int32))]) (decB_ok (by decide +kernel)) rfl rfl ?_
        refine V_ic_ne C (off := 7) (tgt := 42) (by decide +kernel) (by decide) h (fun _ h => ?_) (fun _ h => ?_)
        · refine V_pb C hn [(.iconst 1, 1)] (pc' := 39) (ls' := [(0, .ref (a0 0)), (1, .int p1), (2, .int (p1 / (10 : Int32))), (3, .int (irm p1 (10 : Int32)))]) (st' := [.int (1 : Int32)]) (decB_ok (by decide +kernel)) rfl rfl ?_
          refine V_goto C (off := 4) (tgt := 43) (by decide +kernel) (by decide) ?_
          have h := Option.some.inj h
          subst h
          exact V_iret C (v := (1 : Int32)) (by decide +kernel) nb1
        · refine V_pb C hn [(.iconst 0, 1)] (pc' := 43) (ls' := [(0, .ref (a0 0)), (1, .int p1), (2, .int (p1 / (10 : Int32))), (3, .int (irm p1 (10 : Int32)))]) (st' := [.int (0 : Int32)]) (decB_ok (by decide +kernel)) rfl rfl ?_
          have h := Option.some.inj h
          subst h
          exact V_iret C (v := (0 : Int32)) (by decide +kernel) nb0
set_option maxRecDepth 100000 in
set_option maxHeartbeats 400000 in
theorem cfX1_standsAsTold_L2 {E : VE} (C : Ctx E cX1_standsAsTold RX1 0 (some .boolean)) (hn : E.nL = 3) {a0 : Nat → Nat} {a1 : Nat → Nat} {S0 : HallT} {S1 : (Nat → Int64)} {out : Int32} : ∀ (n : Nat) (v2 : Int32), fX1_standsAsTold_L2 S0 S1 n v2 = some out → V E (QR E (some (.int out)) (wdH E.G a0 S0 ++ wdL E.G a1 S1)) (wdH E.G a0 S0 ++ wdL E.G a1 S1) 2 [(0, .ref (a0 0)), (1, .ref (a1 0)), (2, .int v2)] [] := by
  intro n
  induction n with
  | zero =>
    intro v2 h
    cases h
  | succ n ih =>
    intro v2 h
    unfold fX1_standsAsTold_L2 at h
    refine V_pb C hn [(.iload_n 2, 1), (.aload_n 0, 1)] (pc' := 4) (ls' := [(0, .ref (a0 0)), (1, .ref (a1 0)), (2, .int v2)]) (st' := [.ref (a0 0), .int v2]) (decB_ok (by decide +kernel)) rfl rfl ?_
    refine V_get C (v := .int (h_count S0)) (by decide +kernel) 0 1 fk_RX1_41 rfl rfl ?_
    refine V_ic_ge C (off := 31) (tgt := 38) (by decide +kernel) (by decide) h (fun _ h => ?_) (fun _ h => ?_)
    · refine V_pb C hn [(.iconst 1, 1)] (pc' := 39) (ls' := [(0, .ref (a0 0)), (1, .ref (a1 0)), (2, .int v2)]) (st' := [.int (1 : Int32)]) (decB_ok (by decide +kernel)) rfl rfl ?_
      have h := Option.some.inj h
      subst h
      exact V_iret C (v := (1 : Int32)) (by decide +kernel) nb1
    · refine V_pb C hn [(.iload_n 2, 1), (.aload_n 1, 1)] (pc' := 12) (ls' := [(0, .ref (a0 0)), (1, .ref (a1 0)), (2, .int v2)]) (st' := [.ref (a1 0), .int v2]) (decB_ok (by decide +kernel)) rfl rfl ?_
      refine V_alen C (v := (40 : Int32)) (by decide +kernel) 4 1 rfl rfl rfl ?_
      refine V_ic_ge C (off := 25) (tgt := 38) (by decide +kernel) (by decide) h (fun _ h => ?_) (fun _ h => ?_)
      · refine V_pb C hn [(.iconst 1, 1)] (pc' := 39) (ls' := [(0, .ref (a0 0)), (1, .ref (a1 0)), (2, .int v2)]) (st' := [.int (1 : Int32)]) (decB_ok (by decide +kernel)) rfl rfl ?_
        have h := Option.some.inj h
        subst h
        exact V_iret C (v := (1 : Int32)) (by decide +kernel) nb1
      · refine V_pb C hn [(.aload_n 0, 1)] (pc' := 17) (ls' := [(0, .ref (a0 0)), (1, .ref (a1 0)), (2, .int v2)]) (st' := [.ref (a0 0)]) (decB_ok (by decide +kernel)) rfl rfl ?_
        refine V_get C (v := .ref (a0 3)) (by decide +kernel) 0 4 fk_RX1_22 rfl rfl ?_
        refine V_pb C hn [(.iload_n 2, 1)] (pc' := 21) (ls' := [(0, .ref (a0 0)), (1, .ref (a1 0)), (2, .int v2)]) (st' := [.int v2, .ref (a0 3)]) (decB_ok (by decide +kernel)) rfl rfl ?_
        refine V_iald C (f := (h_cellOf S0)) (by decide +kernel) 3 rfl h (fun h => ?_)
        refine V_pb C hn [(.i2l, 1), (.aload_n 1, 1), (.iload_n 2, 1)] (pc' := 25) (ls' := [(0, .ref (a0 0)), (1, .ref (a1 0)), (2, .int v2)]) (st' := [.int v2, .ref (a1 0), .long ((h_cellOf S0) (ix v2)).toInt64]) (decB_ok (by decide +kernel)) rfl rfl ?_
        refine V_lald C (f := S1) (by decide +kernel) 4 rfl h (fun h => ?_)
        refine V_pb C hn [(.lcmp, 1)] (pc' := 27) (ls' := [(0, .ref (a0 0)), (1, .ref (a1 0)), (2, .int v2)]) (st' := [.int (lg_cmp (((h_cellOf S0) (ix v2)).toInt64) (S1 (ix v2)))]) (decB_ok (by decide +kernel)) rfl rfl ?_
        refine V_if_eq C (off := 5) (tgt := 32) (by decide +kernel) (by decide) h (fun _ h => ?_) (fun _ h => ?_)
        · refine V_pb C hn [(.iinc 2 1, 3)] (pc' := 35) (ls' := [(0, .ref (a0 0)), (1, .ref (a1 0)), (2, .int (v2 + (1 : Int32)))]) (st' := []) (decB_ok (by decide +kernel)) rfl rfl ?_
          refine V_goto C (off := -33) (tgt := 2) (by decide +kernel) (by decide) ?_
          refine V_sub (ls' := [(0, .ref (a0 0)), (1, .ref (a1 0)), (2, .int (v2 + (1 : Int32)))]) rfl ?_
          exact ih _ h
        · refine V_pb C hn [(.iconst 0, 1)] (pc' := 31) (ls' := [(0, .ref (a0 0)), (1, .ref (a1 0)), (2, .int v2)]) (st' := [.int (0 : Int32)]) (decB_ok (by decide +kernel)) rfl rfl ?_
          have h := Option.some.inj h
          subst h
          exact V_iret C (v := (0 : Int32)) (by decide +kernel) nb0
set_option maxRecDepth 100000 in
set_option maxHeartbeats 400000 in
theorem cfX1_standsAsTold {l : Launch} {G : GG} (a0 : Nat → Nat) (a1 : Nat → Nat) {S0 : HallT} {S1 : (Nat → Int64)} {out : Int32} (h : fX1_standsAsTold S0 S1 = some out) : Con l G 0 yX1_standsAsTold cX1_standsAsTold 3 (some .boolean) [.ref (a0 0), .ref (a1 0)] (wdH G a0 S0 ++ wdL G a1 S1) (some (.int out)) (wdH G a0 S0 ++ wdL G a1 S1) := by
  refine Con_of (by decide +kernel) (Nat.le_of_ble_eq_true rfl) (fun E hl hG hn C => ?_)
  subst hl
  subst hG
  have C : Ctx E cX1_standsAsTold RX1 0 (some .boolean) := C
  show V E _ _ 0 [(0, .ref (a0 0)), (1, .ref (a1 0))] []
  unfold fX1_standsAsTold at h
  refine V_pb C hn [(.iconst 0, 1), (.istore_n 2, 1)] (pc' := 2) (ls' := [(0, .ref (a0 0)), (1, .ref (a1 0)), (2, .int (0 : Int32))]) (st' := []) (decB_ok (by decide +kernel)) rfl rfl ?_
  refine V_sub (ls' := [(0, .ref (a0 0)), (1, .ref (a1 0)), (2, .int (0 : Int32))]) rfl ?_
  exact cfX1_standsAsTold_L2 C hn FU _ h
set_option maxRecDepth 100000 in
set_option maxHeartbeats 400000 in
theorem cfX1_goThrough_L2 {E : VE} (C : Ctx E cX1_goThrough RX1 4 none) (hn : E.nL = 4) {a0 : Nat → Nat} {a1 : Nat → Nat} {p2 : Int32} {S1 : (Nat → Int64)} {out : HallT} : ∀ (n : Nat) (v3 : Int32) (S0 : HallT), fX1_goThrough_L2 p2 S1 n v3 S0 = some out → V E (QR E none (wdH E.G a0 out ++ wdL E.G a1 S1)) (wdH E.G a0 S0 ++ wdL E.G a1 S1) 2 [(0, .ref (a0 0)), (1, .ref (a1 0)), (2, .int p2), (3, .int v3)] [] := by
  intro n
  induction n with
  | zero =>
    intro v3 S0 h
    cases h
  | succ n ih =>
    intro v3 S0 h
    unfold fX1_goThrough_L2 at h
    refine V_pb C hn [(.iload_n 3, 1), (.iload_n 2, 1)] (pc' := 4) (ls' := [(0, .ref (a0 0)), (1, .ref (a1 0)), (2, .int p2), (3, .int v3)]) (st' := [.int p2, .int v3]) (decB_ok (by decide +kernel)) rfl rfl ?_
    refine V_ic_ge C (off := 44) (tgt := 48) (by decide +kernel) (by decide) h (fun _ h => ?_) (fun _ h => ?_)
    · have h := Option.some.inj h
      subst h
      exact V_vret C (by decide +kernel)
    · refine V_pb C hn [(.iload_n 3, 1), (.aload_n 1, 1)] (pc' := 9) (ls' := [(0, .ref (a0 0)), (1, .ref (a1 0)), (2, .int p2), (3, .int v3)]) (st' := [.ref (a1 0), .int v3]) (decB_ok (by decide +kernel)) rfl rfl ?_
      refine V_alen C (v := (40 : Int32)) (by decide +kernel) 4 1 rfl rfl rfl ?_
      refine V_ic_ge C (off := 38) (tgt := 48) (by decide +kernel) (by decide) h (fun _ h => ?_) (fun _ h => ?_)
      · have h := Option.some.inj h
        subst h
        exact V_vret C (by decide +kernel)
      · refine V_pb C hn [(.aload_n 0, 1), (.aload_n 1, 1), (.iload_n 3, 1)] (pc' := 16) (ls' := [(0, .ref (a0 0)), (1, .ref (a1 0)), (2, .int p2), (3, .int v3)]) (st' := [.int v3, .ref (a1 0), .ref (a0 0)]) (decB_ok (by decide +kernel)) rfl rfl ?_
        refine V_lald C (f := S1) (by decide +kernel) 4 rfl h (fun h => ?_)
        refine V_ldc2 C (by decide +kernel) kk_RX1_79 ?_
        refine V_ldiv C (by decide +kernel) (by decide) ?_
        refine V_pb C hn [(.l2i, 1)] (pc' := 22) (ls' := [(0, .ref (a0 0)), (1, .ref (a1 0)), (2, .int p2), (3, .int v3)]) (st' := [.int ((S1 (ix v3)) / (10 : Int64)).toInt32, .ref (a0 0)]) (decB_ok (by decide +kernel)) rfl rfl ?_
        obtain ⟨x1, e2, h⟩ := bnd h
        refine V_topi e2 ?_
        obtain ⟨w3, e4, h⟩ := bnd h
        refine V_put C (v := .int x1) (ws' := wdH E.G a0 w3 ++ wdL E.G a1 S1) (by decide +kernel) 0 5 pk_RX1_44 rfl rfl rfl (Nat.le_of_ble_eq_true rfl) (by cases e4; rfl) ?_
        refine V_pb C hn [(.aload_n 0, 1), (.aload_n 1, 1), (.iload_n 3, 1)] (pc' := 28) (ls' := [(0, .ref (a0 0)), (1, .ref (a1 0)), (2, .int p2), (3, .int v3)]) (st' := [.int v3, .ref (a1 0), .ref (a0 0)]) (decB_ok (by decide +kernel)) rfl rfl ?_
        refine V_lald C (f := S1) (by decide +kernel) 4 rfl h (fun h => ?_)
        refine V_ldc2 C (by decide +kernel) kk_RX1_79 ?_
        refine V_lrem C (by decide +kernel) (by decide) ?_
        refine V_pb C hn [(.l2i, 1)] (pc' := 34) (ls' := [(0, .ref (a0 0)), (1, .ref (a1 0)), (2, .int p2), (3, .int v3)]) (st' := [.int (lrm (S1 (ix v3)) (10 : Int64)).toInt32, .ref (a0 0)]) (decB_ok (by decide +kernel)) rfl rfl ?_
        obtain ⟨x5, e6, h⟩ := bnd h
        refine V_topi e6 ?_
        obtain ⟨w7, e8, h⟩ := bnd h
        refine V_put C (v := .int x5) (ws' := wdH E.G a0 w7 ++ wdL E.G a1 S1) (by decide +kernel) 0 6 pk_RX1_47 rfl rfl rfl (Nat.le_of_ble_eq_true rfl) (by cases e8; rfl) ?_
        refine V_pb C hn [(.aload_n 0, 1), (.iconst 1, 1)] (pc' := 39) (ls' := [(0, .ref (a0 0)), (1, .ref (a1 0)), (2, .int p2), (3, .int v3)]) (st' := [.int (1 : Int32), .ref (a0 0)]) (decB_ok (by decide +kernel)) rfl rfl ?_
        obtain ⟨q9, h10, h⟩ := bnd h
        refine V_callV (ws' := wdH E.G a0 q9 ++ wdL E.G a1 S1) C (As := [.int (1 : Int32)]) (rest := []) (by decide +kernel) ok_yX1_goOn mk_RX1_81 (cfX1_goOn (l := E.l) (G := E.G) a0 h10) [0, 1, 2, 3] (q0 := 0) rfl rfl rfl rfl rfl rfl rfl rfl rfl (Nat.le_of_ble_eq_true rfl) (Nat.le_of_ble_eq_true rfl) (Nat.le_of_ble_eq_true rfl) ?_
        show V E _ (wdH E.G a0 q9 ++ wdL E.G a1 S1) 42 [(0, .ref (a0 0)), (1, .ref (a1 0)), (2, .int p2), (3, .int v3)] []
        refine V_pb C hn [(.iinc 3 1, 3)] (pc' := 45) (ls' := [(0, .ref (a0 0)), (1, .ref (a1 0)), (2, .int p2), (3, .int (v3 + (1 : Int32)))]) (st' := []) (decB_ok (by decide +kernel)) rfl rfl ?_
        refine V_goto C (off := -43) (tgt := 2) (by decide +kernel) (by decide) ?_
        refine V_sub (ls' := [(0, .ref (a0 0)), (1, .ref (a1 0)), (2, .int p2), (3, .int (v3 + (1 : Int32)))]) rfl ?_
        exact ih _ _ h
set_option maxRecDepth 100000 in
set_option maxHeartbeats 400000 in
theorem cfX1_goThrough {l : Launch} {G : GG} (a0 : Nat → Nat) (a1 : Nat → Nat) {p2 : Int32} {S0 : HallT} {S1 : (Nat → Int64)} {out : HallT} (h : fX1_goThrough p2 S0 S1 = some out) : Con l G 4 yX1_goThrough cX1_goThrough 4 none [.ref (a0 0), .ref (a1 0), .int p2] (wdH G a0 S0 ++ wdL G a1 S1) none (wdH G a0 out ++ wdL G a1 S1) := by
  refine Con_of (by decide +kernel) (Nat.le_of_ble_eq_true rfl) (fun E hl hG hn C => ?_)
  subst hl
  subst hG
  have C : Ctx E cX1_goThrough RX1 4 none := C
  show V E _ _ 0 [(0, .ref (a0 0)), (1, .ref (a1 0)), (2, .int p2)] []
  unfold fX1_goThrough at h
  refine V_pb C hn [(.iconst 0, 1), (.istore_n 3, 1)] (pc' := 2) (ls' := [(0, .ref (a0 0)), (1, .ref (a1 0)), (2, .int p2), (3, .int (0 : Int32))]) (st' := []) (decB_ok (by decide +kernel)) rfl rfl ?_
  refine V_sub (ls' := [(0, .ref (a0 0)), (1, .ref (a1 0)), (2, .int p2), (3, .int (0 : Int32))]) rfl ?_
  exact cfX1_goThrough_L2 C hn FU _ _ h
set_option maxRecDepth 100000 in
set_option maxHeartbeats 400000 in
theorem cfX1_draw {l : Launch} {G : GG} (a0 : Nat → Nat) {S0 : HallT} {out : Int32 × HallT} (h : fX1_draw S0 = some out) : Con l G 0 yX1_draw cX1_draw 1 (some .int) [.ref (a0 0)] (wdH G a0 S0) (some (.int out.1)) (wdH G a0 out.2) := by
  refine Con_of (by decide +kernel) (Nat.le_of_ble_eq_true rfl) (fun E hl hG hn C => ?_)
  subst hl
  subst hG
  have C : Ctx E cX1_draw RX1 0 (some .int) := C
  show V E _ _ 0 [(0, .ref (a0 0))] []
  unfold fX1_draw at h
  refine V_pb C hn [(.aload_n 0, 1), (.aload_n 0, 1)] (pc' := 2) (ls' := [(0, .ref (a0 0))]) (st' := [.ref (a0 0), .ref (a0 0)]) (decB_ok (by decide +kernel)) rfl rfl ?_
  refine V_get C (v := .int (h_seed S0)) (by decide +kernel) 0 11 fk_RX1_28 rfl rfl ?_
  refine V_ldc C (by decide +kernel) kk_RX1_93 ?_
  refine V_pb C hn [(.imul, 1), (.sipush 12345, 3), (.iadd, 1)] (pc' := 12) (ls' := [(0, .ref (a0 0))]) (st' := [.int (((h_seed S0) * (1103515245 : Int32)) + (12345 : Int32)), .ref (a0 0)]) (decB_ok (by decide +kernel)) rfl rfl ?_
  obtain ⟨x1, e2, h⟩ := bnd h
  refine V_topi e2 ?_
  refine V_put C (v := .int x1) (ws' := wdH E.G a0 (hs_seed S0 x1)) (by decide +kernel) 0 11 pk_RX1_28 rfl rfl rfl (Nat.le_of_ble_eq_true rfl) rfl ?_
  refine V_pb C hn [(.aload_n 0, 1)] (pc' := 16) (ls' := [(0, .ref (a0 0))]) (st' := [.ref (a0 0)]) (decB_ok (by decide +kernel)) rfl rfl ?_
  refine V_get C (v := .int x1) (by decide +kernel) 0 11 fk_RX1_28 rfl rfl ?_
  refine V_pb C hn [(.bipush 16, 2), (.iushr, 1), (.bipush 12, 2)] (pc' := 24) (ls' := [(0, .ref (a0 0))]) (st' := [.int (12 : Int32), .int (jushr x1 (16 : Int32))]) (decB_ok (by decide +kernel)) rfl rfl ?_
  refine V_irem C (by decide +kernel) (by decide) ?_
  have h := Option.some.inj h
  subst h
  exact V_iret C (by decide +kernel) rfl
set_option maxRecDepth 100000 in
set_option maxHeartbeats 400000 in
theorem cfX1_drawDoors_j25 {E : VE} (C : Ctx E cX1_drawDoors RX1 1 none) (hn : E.nL = 2) {a0 : Nat → Nat} {v1 : Int32} {s0 : Int32} {s1 : Int32} {S0 : HallT} {out : HallT} {k2 : Int32 → HallT → Option (HallT)} (hk2 : ∀ (v1 : Int32) (S0 : HallT), k2 v1 S0 = some out → V E (QR E none (wdH E.G a0 out)) (wdH E.G a0 S0) 2 [(0, .ref (a0 0)), (1, .int v1)] []) (h : fX1_drawDoors_j25 k2 v1 s0 s1 S0 = some out) : V E (QR E none (wdH E.G a0 out)) (wdH E.G a0 S0) 25 [(0, .ref (a0 0)), (1, .int v1)] [.int s0, .int s1, .ref (a0 0)] := by
  unfold fX1_drawDoors_j25 at h
  obtain ⟨q3, h4, h⟩ := bnd h
  refine V_callV0 C (As := [.int s1, .int s0]) (rest := []) (by decide +kernel) ok_yX1_setDoor mk_RX1_89 (cfX1_setDoor (l := E.l) (G := E.G) a0 h4) (q0 := 0) rfl rfl rfl rfl rfl rfl (Nat.le_of_ble_eq_true rfl) (Nat.le_of_ble_eq_true rfl) (Nat.le_of_ble_eq_true rfl) ?_
  show V E _ (wdH E.G a0 q3) 28 [(0, .ref (a0 0)), (1, .int v1)] []
  refine V_pb C hn [(.iinc 1 1, 3)] (pc' := 31) (ls' := [(0, .ref (a0 0)), (1, .int (v1 + (1 : Int32)))]) (st' := []) (decB_ok (by decide +kernel)) rfl rfl ?_
  refine V_goto C (off := -29) (tgt := 2) (by decide +kernel) (by decide) ?_
  refine V_sub (ls' := [(0, .ref (a0 0)), (1, .int (v1 + (1 : Int32)))]) rfl ?_
  exact hk2 _ _ h
set_option maxRecDepth 100000 in
set_option maxHeartbeats 400000 in
theorem cfX1_drawDoors_L2 {E : VE} (C : Ctx E cX1_drawDoors RX1 1 none) (hn : E.nL = 2) {a0 : Nat → Nat} {out : HallT} : ∀ (n : Nat) (v1 : Int32) (S0 : HallT), fX1_drawDoors_L2 n v1 S0 = some out → V E (QR E none (wdH E.G a0 out)) (wdH E.G a0 S0) 2 [(0, .ref (a0 0)), (1, .int v1)] [] := by
  intro n
  induction n with
  | zero =>
    intro v1 S0 h
    cases h
  | succ n ih =>
    intro v1 S0 h
    unfold fX1_drawDoors_L2 at h
    refine V_pb C hn [(.iload_n 1, 1), (.iconst 4, 1)] (pc' := 4) (ls' := [(0, .ref (a0 0)), (1, .int v1)]) (st' := [.int (4 : Int32), .int v1]) (decB_ok (by decide +kernel)) rfl rfl ?_
    refine V_ic_ge C (off := 30) (tgt := 34) (by decide +kernel) (by decide) h (fun _ h => ?_) (fun _ h => ?_)
    · have h := Option.some.inj h
      subst h
      exact V_vret C (by decide +kernel)
    · refine V_pb C hn [(.aload_n 0, 1), (.iload_n 1, 1), (.aload_n 0, 1)] (pc' := 10) (ls' := [(0, .ref (a0 0)), (1, .int v1)]) (st' := [.ref (a0 0), .int v1, .ref (a0 0)]) (decB_ok (by decide +kernel)) rfl rfl ?_
      obtain ⟨q1, h2, h⟩ := bnd h
      refine V_callV0 C (As := []) (rest := [.int v1, .ref (a0 0)]) (by decide +kernel) ok_yX1_draw mk_RX1_85 (cfX1_draw (l := E.l) (G := E.G) a0 h2) (q0 := 0) rfl rfl rfl rfl rfl rfl (Nat.le_of_ble_eq_true rfl) (Nat.le_of_ble_eq_true rfl) (Nat.le_of_ble_eq_true rfl) ?_
      show V E _ (wdH E.G a0 q1.2) 13 [(0, .ref (a0 0)), (1, .int v1)] [.int q1.1, .int v1, .ref (a0 0)]
      refine V_pb C hn [(.aload_n 0, 1)] (pc' := 14) (ls' := [(0, .ref (a0 0)), (1, .int v1)]) (st' := [.ref (a0 0), .int q1.1, .int v1, .ref (a0 0)]) (decB_ok (by decide +kernel)) rfl rfl ?_
      refine V_get C (v := .int (h_chance q1.2)) (by decide +kernel) 0 10 fk_RX1_25 rfl rfl ?_
      refine V_ic_ge C (off := 7) (tgt := 24) (by decide +kernel) (by decide) h (fun _ h => ?_) (fun _ h => ?_)
      · refine V_pb C hn [(.iconst 0, 1)] (pc' := 25) (ls' := [(0, .ref (a0 0)), (1, .int v1)]) (st' := [.int (0 : Int32), .int v1, .ref (a0 0)]) (decB_ok (by decide +kernel)) rfl rfl ?_
        refine V_sub (ls' := [(0, .ref (a0 0)), (1, .int v1)]) rfl ?_
        exact cfX1_drawDoors_j25 C hn (k2 := (fun v1 S0 => fX1_drawDoors_L2 n v1 S0)) (fun v1 S0 h => ih v1 S0 h) h
      · refine V_pb C hn [(.iconst 1, 1)] (pc' := 21) (ls' := [(0, .ref (a0 0)), (1, .int v1)]) (st' := [.int (1 : Int32), .int v1, .ref (a0 0)]) (decB_ok (by decide +kernel)) rfl rfl ?_
        refine V_goto C (off := 4) (tgt := 25) (by decide +kernel) (by decide) ?_
        refine V_sub (ls' := [(0, .ref (a0 0)), (1, .int v1)]) rfl ?_
        exact cfX1_drawDoors_j25 C hn (k2 := (fun v1 S0 => fX1_drawDoors_L2 n v1 S0)) (fun v1 S0 h => ih v1 S0 h) h
set_option maxRecDepth 100000 in
set_option maxHeartbeats 400000 in
theorem cfX1_drawDoors {l : Launch} {G : GG} (a0 : Nat → Nat) {S0 : HallT} {out : HallT} (h : fX1_drawDoors S0 = some out) : Con l G 1 yX1_drawDoors cX1_drawDoors 2 none [.ref (a0 0)] (wdH G a0 S0) none (wdH G a0 out) := by
  refine Con_of (by decide +kernel) (Nat.le_of_ble_eq_true rfl) (fun E hl hG hn C => ?_)
  subst hl
  subst hG
  have C : Ctx E cX1_drawDoors RX1 1 none := C
  show V E _ _ 0 [(0, .ref (a0 0))] []
  unfold fX1_drawDoors at h
  refine V_pb C hn [(.iconst 0, 1), (.istore_n 1, 1)] (pc' := 2) (ls' := [(0, .ref (a0 0)), (1, .int (0 : Int32))]) (st' := []) (decB_ok (by decide +kernel)) rfl rfl ?_
  refine V_sub (ls' := [(0, .ref (a0 0)), (1, .int (0 : Int32))]) rfl ?_
  exact cfX1_drawDoors_L2 C hn FU _ _ h
