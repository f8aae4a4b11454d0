set_option maxRecDepth 100000 in
set_option maxHeartbeats 400000 in
theorem cfX4_isShelf {l : Launch} {G : GG} {p0 : Int32} {out : Int32} (h : fX4_isShelf p0 = some out) : Con l G 0 yX4_isShelf cX4_isShelf 1 (some .boolean) [.int p0] (([] : va_W)) (some (.int out)) (([] : va_W)) := by
  refine Con_of (by decide +kernel) (Nat.le_of_ble_eq_true rfl) (fun E hl hG hn C => ?_)
  subst hl
  subst hG
  have C : Ctx E cX4_isShelf RX4 0 (some .boolean) := C
  show V E _ _ 0 [(0, .int p0)] []
  unfold fX4_isShelf at h
  refine V_pb C hn [(.iload_n 0, 1)] (pc' := 1) (ls' := [(0, .int p0)]) (st' := [.int p0]) (decB_ok (by decide +kernel)) rfl rfl ?_
  refine V_if_lt C (off := 13) (tgt := 14) (by decide +kernel) (by decide) h (fun _ h => ?_) (fun _ h => ?_)
  · refine V_pb C hn [(.iconst 0, 1)] (pc' := 15) (ls' := [(0, .int p0)]) (st' := [.int (0 : Int32)]) (decB_ok (by decide +kernel)) rfl rfl ?_
    have h := Option.some.inj h
    subst h
    exact V_iret C (v := (0 : Int32)) (by decide +kernel) nb0
  · refine V_pb C hn [(.iload_n 0, 1), (.bipush 8, 2)] (pc' := 7) (ls' := [(0, .int p0)]) (st' := [.int (8 : Int32), .int p0]) (decB_ok (by decide +kernel)) rfl rfl ?_
    refine V_ic_ge C (off := 7) (tgt := 14) (by decide +kernel) (by decide) h (fun _ h => ?_) (fun _ h => ?_)
    · refine V_pb C hn [(.iconst 0, 1)] (pc' := 15) (ls' := [(0, .int p0)]) (st' := [.int (0 : Int32)]) (decB_ok (by decide +kernel)) rfl rfl ?_
      have h := Option.some.inj h
      subst h
      exact V_iret C (v := (0 : Int32)) (by decide +kernel) nb0
    · refine V_pb C hn [(.iconst 1, 1)] (pc' := 11) (ls' := [(0, .int p0)]) (st' := [.int (1 : Int32)]) (decB_ok (by decide +kernel)) rfl rfl ?_
      refine V_goto C (off := 4) (tgt := 15) (by decide +kernel) (by decide) ?_
      have h := Option.some.inj h
      subst h
      exact V_iret C (v := (1 : Int32)) (by decide +kernel) nb1
set_option maxRecDepth 100000 in
set_option maxHeartbeats 400000 in
theorem cfX4_isElementCount {l : Launch} {G : GG} {p0 : Int32} {out : Int32} (h : fX4_isElementCount p0 = some out) : Con l G 0 yX4_isElementCount cX4_isElementCount 1 (some .boolean) [.int p0] (([] : va_W)) (some (.int out)) (([] : va_W)) := by
  refine Con_of (by decide +kernel) (Nat.le_of_ble_eq_true rfl) (fun E hl hG hn C => ?_)
  subst hl
  subst hG
  have C : Ctx E cX4_isElementCount RX4 0 (some .boolean) := C
  show V E _ _ 0 [(0, .int p0)] []
  unfold fX4_isElementCount at h
  refine V_pb C hn [(.iload_n 0, 1)] (pc' := 1) (ls' := [(0, .int p0)]) (st' := [.int p0]) (decB_ok (by decide +kernel)) rfl rfl ?_
  refine V_if_lt C (off := 13) (tgt := 14) (by decide +kernel) (by decide) h (fun _ h => ?_) (fun _ h => ?_)
  · refine V_pb C hn [(.iconst 0, 1)] (pc' := 15) (ls' := [(0, .int p0)]) (st' := [.int (0 : Int32)]) (decB_ok (by decide +kernel)) rfl rfl ?_
    have h := Option.some.inj h
    subst h
    exact V_iret C (v := (0 : Int32)) (by decide +kernel) nb0
  · refine V_pb C hn [(.iload_n 0, 1), (.bipush 40, 2)] (pc' := 7) (ls' := [(0, .int p0)]) (st' := [.int (40 : Int32), .int p0]) (decB_ok (by decide +kernel)) rfl rfl ?_
    refine V_ic_gt C (off := 7) (tgt := 14) (by decide +kernel) (by decide) h (fun _ h => ?_) (fun _ h => ?_)
    · refine V_pb C hn [(.iconst 0, 1)] (pc' := 15) (ls' := [(0, .int p0)]) (st' := [.int (0 : Int32)]) (decB_ok (by decide +kernel)) rfl rfl ?_
      have h := Option.some.inj h
      subst h
      exact V_iret C (v := (0 : Int32)) (by decide +kernel) nb0
    · refine V_pb C hn [(.iconst 1, 1)] (pc' := 11) (ls' := [(0, .int p0)]) (st' := [.int (1 : Int32)]) (decB_ok (by decide +kernel)) rfl rfl ?_
      refine V_goto C (off := 4) (tgt := 15) (by decide +kernel) (by decide) ?_
      have h := Option.some.inj h
      subst h
      exact V_iret C (v := (1 : Int32)) (by decide +kernel) nb1
set_option maxRecDepth 100000 in
set_option maxHeartbeats 400000 in
theorem cfX4_refuse {l : Launch} {G : GG} (a0 : Nat → Nat) {p1 : Int32} {S0 : XT} {out : Int32 × XT} (h : fX4_refuse p1 S0 = some out) : Con l G 0 yX4_refuse cX4_refuse 3 (some .int) [.ref (a0 0), .int p1] (wdX G a0 S0) (some (.int out.1)) (wdX G a0 out.2) := by
  refine Con_of (by decide +kernel) (Nat.le_of_ble_eq_true rfl) (fun E hl hG hn C => ?_)
  subst hl
  subst hG
  have C : Ctx E cX4_refuse RX4 0 (some .int) := C
  show V E _ _ 0 [(0, .ref (a0 0)), (1, .int p1)] []
  unfold fX4_refuse at h
  refine V_pb C hn [(.bipush (-2), 2), (.iload_n 1, 1), (.isub, 1), (.istore_n 2, 1), (.iload_n 2, 1)] (pc' := 6) (ls' := [(0, .ref (a0 0)), (1, .int p1), (2, .int ((cI (-2)) - p1))]) (st' := [.int ((cI (-2)) - p1)]) (decB_ok (by decide +kernel)) rfl rfl ?_
  refine V_if_lt C (off := 18) (tgt := 24) (by decide +kernel) (by decide) h (fun _ h => ?_) (fun _ h => ?_)
  · refine V_pb C hn [(.iload_n 1, 1)] (pc' := 25) (ls' := [(0, .ref (a0 0)), (1, .int p1), (2, .int ((cI (-2)) - p1))]) (st' := [.int p1]) (decB_ok (by decide +kernel)) rfl rfl ?_
    have h := Option.some.inj h
    subst h
    exact V_iret C (by decide +kernel) rfl
  · refine V_pb C hn [(.iload_n 2, 1), (.iconst 5, 1)] (pc' := 11) (ls' := [(0, .ref (a0 0)), (1, .int p1), (2, .int ((cI (-2)) - p1))]) (st' := [.int (5 : Int32), .int ((cI (-2)) - p1)]) (decB_ok (by decide +kernel)) rfl rfl ?_
    refine V_ic_ge C (off := 13) (tgt := 24) (by decide +kernel) (by decide) h (fun _ h => ?_) (fun _ h => ?_)
    · refine V_pb C hn [(.iload_n 1, 1)] (pc' := 25) (ls' := [(0, .ref (a0 0)), (1, .int p1), (2, .int ((cI (-2)) - p1))]) (st' := [.int p1]) (decB_ok (by decide +kernel)) rfl rfl ?_
      have h := Option.some.inj h
      subst h
      exact V_iret C (by decide +kernel) rfl
    · refine V_pb C hn [(.aload_n 0, 1)] (pc' := 15) (ls' := [(0, .ref (a0 0)), (1, .int p1), (2, .int ((cI (-2)) - p1))]) (st' := [.ref (a0 0)]) (decB_ok (by decide +kernel)) rfl rfl ?_
      refine V_get C (v := .ref (a0 1)) (by decide +kernel) 0 7 fk_RX4_42 rfl rfl ?_
      refine V_pb C hn [(.iload_n 2, 1), (.dup2, 1)] (pc' := 20) (ls' := [(0, .ref (a0 0)), (1, .int p1), (2, .int ((cI (-2)) - p1))]) (st' := [.int ((cI (-2)) - p1), .ref (a0 1), .int ((cI (-2)) - p1), .ref (a0 1)]) (decB_ok (by decide +kernel)) rfl rfl ?_
      refine V_iald C (f := (x_refusals S0)) (by decide +kernel) 1 rfl h (fun h => ?_)
      refine V_pb C hn [(.iconst 1, 1), (.iadd, 1)] (pc' := 23) (ls' := [(0, .ref (a0 0)), (1, .int p1), (2, .int ((cI (-2)) - p1))]) (st' := [.int (((x_refusals S0) (ix ((cI (-2)) - p1))) + (1 : Int32)), .int ((cI (-2)) - p1), .ref (a0 1)]) (decB_ok (by decide +kernel)) rfl rfl ?_
      obtain ⟨x1, e2, h⟩ := bnd h
      refine V_topi e2 ?_
      obtain ⟨x3, e4, h⟩ := bnd h
      refine V_top2 e4 ?_
      refine V_iast C (f := (x_refusals S0)) (ws' := wdX E.G a0 (xs_refusals S0 (upd (x_refusals S0) (ix x3) x1))) (by decide +kernel) 1 rfl h rfl (fun h => ?_)
      refine V_pb C hn [(.iload_n 1, 1)] (pc' := 25) (ls' := [(0, .ref (a0 0)), (1, .int p1), (2, .int ((cI (-2)) - p1))]) (st' := [.int p1]) (decB_ok (by decide +kernel)) rfl rfl ?_
      have h := Option.some.inj h
      subst h
      exact V_iret C (by decide +kernel) rfl
set_option maxRecDepth 100000 in
set_option maxHeartbeats 400000 in
theorem cfX4_row_j23 {E : VE} (C : Ctx E cX4_row RX4 2 (some .int)) (hn : E.nL = 4) {a0 : Nat → Nat} {p1 : Int32} {p2 : Int32} {p3 : Int32} {S0 : XT} {out : Int32 × XT} (h : fX4_row_j23 p1 p2 p3 S0 = some out) : V E (QR E (some (.int out.1)) (wdX E.G a0 out.2)) (wdX E.G a0 S0) 23 [(0, .ref (a0 0))] [] := by
  unfold fX4_row_j23 at h
  refine V_pb C hn [(.aload_n 0, 1), (.bipush (-2), 2)] (pc' := 26) (ls' := [(0, .ref (a0 0))]) (st' := [.int (cI (-2)), .ref (a0 0)]) (decB_ok (by decide +kernel)) rfl rfl ?_
  obtain ⟨q3, h4, h⟩ := bnd h
  refine V_callV0 C (As := [.int (cI (-2))]) (rest := []) (by decide +kernel) ok_yX4_refuse mk_RX4_57 (cfX4_refuse (l := E.l) (G := E.G) a0 h4) (q0 := 0) rfl rfl rfl rfl rfl rfl (Nat.le_of_ble_eq_true rfl) (Nat.le_of_ble_eq_true rfl) (Nat.le_of_ble_eq_true rfl) ?_
  show V E _ (wdX E.G a0 q3.2) 29 [(0, .ref (a0 0))] [.int q3.1]
  have h := Option.some.inj h
  subst h
  exact V_iret C (by decide +kernel) rfl
set_option maxRecDepth 100000 in
set_option maxHeartbeats 400000 in
theorem cfX4_row {l : Launch} {G : GG} (a0 : Nat → Nat) {p1 : Int32} {p2 : Int32} {p3 : Int32} {S0 : XT} {out : Int32 × XT} (h : fX4_row p1 p2 p3 S0 = some out) : Con l G 2 yX4_row cX4_row 4 (some .int) [.ref (a0 0), .int p1, .int p2, .int p3] (wdX G a0 S0) (some (.int out.1)) (wdX G a0 out.2) := by
  refine Con_of (by decide +kernel) (Nat.le_of_ble_eq_true rfl) (fun E hl hG hn C => ?_)
  subst hl
  subst hG
  have C : Ctx E cX4_row RX4 2 (some .int) := C
  show V E _ _ 0 [(0, .ref (a0 0)), (1, .int p1), (2, .int p2), (3, .int p3)] []
  unfold fX4_row at h
  refine V_pb C hn [(.iload_n 1, 1)] (pc' := 1) (ls' := [(0, .ref (a0 0)), (1, .int p1), (2, .int p2), (3, .int p3)]) (st' := [.int p1]) (decB_ok (by decide +kernel)) rfl rfl ?_
  obtain ⟨q1, h2, h⟩ := bnd h
  refine V_callSp C (As := [.int p1]) (rest := []) (by decide +kernel) ok_yX4_isShelf mk_RX4_50 (cfX4_isShelf (l := E.l) (G := E.G) h2) [] rfl rfl rfl rfl (Nat.le_of_ble_eq_true rfl) (Nat.le_of_ble_eq_true rfl) (Nat.le_of_ble_eq_true rfl) ?_
  show V E _ (wdX E.G a0 S0) 4 [(0, .ref (a0 0)), (1, .int p1), (2, .int p2), (3, .int p3)] [.int q1]
  refine V_if_eq C (off := 19) (tgt := 23) (by decide +kernel) (by decide) h (fun _ h => ?_) (fun _ h => ?_)
  · refine V_sub (ls' := [(0, .ref (a0 0))]) rfl ?_
    exact cfX4_row_j23 C hn h
  · refine V_pb C hn [(.iload_n 2, 1)] (pc' := 8) (ls' := [(0, .ref (a0 0)), (1, .int p1), (2, .int p2), (3, .int p3)]) (st' := [.int p2]) (decB_ok (by decide +kernel)) rfl rfl ?_
    refine V_if_lt C (off := 15) (tgt := 23) (by decide +kernel) (by decide) h (fun _ h => ?_) (fun _ h => ?_)
    · refine V_sub (ls' := [(0, .ref (a0 0))]) rfl ?_
      exact cfX4_row_j23 C hn h
    · refine V_pb C hn [(.iload_n 2, 1), (.iconst 4, 1)] (pc' := 13) (ls' := [(0, .ref (a0 0)), (1, .int p1), (2, .int p2), (3, .int p3)]) (st' := [.int (4 : Int32), .int p2]) (decB_ok (by decide +kernel)) rfl rfl ?_
      refine V_ic_gt C (off := 10) (tgt := 23) (by decide +kernel) (by decide) h (fun _ h => ?_) (fun _ h => ?_)
      · refine V_sub (ls' := [(0, .ref (a0 0))]) rfl ?_
        exact cfX4_row_j23 C hn h
      · refine V_pb C hn [(.iload_n 3, 1)] (pc' := 17) (ls' := [(0, .ref (a0 0)), (1, .int p1), (2, .int p2), (3, .int p3)]) (st' := [.int p3]) (decB_ok (by decide +kernel)) rfl rfl ?_
        obtain ⟨q5, h6, h⟩ := bnd h
        refine V_callSp C (As := [.int p3]) (rest := []) (by decide +kernel) ok_yX4_isElementCount mk_RX4_54 (cfX4_isElementCount (l := E.l) (G := E.G) h6) [] rfl rfl rfl rfl (Nat.le_of_ble_eq_true rfl) (Nat.le_of_ble_eq_true rfl) (Nat.le_of_ble_eq_true rfl) ?_
        show V E _ (wdX E.G a0 S0) 20 [(0, .ref (a0 0)), (1, .int p1), (2, .int p2), (3, .int p3)] [.int q5]
        refine V_if_ne C (off := 10) (tgt := 30) (by decide +kernel) (by decide) h (fun _ h => ?_) (fun _ h => ?_)
        · refine V_sub (ls' := [(0, .ref (a0 0))]) rfl ?_
          exact cfX4_row_j23 C hn h
        · refine V_pb C hn [(.aload_n 0, 1)] (pc' := 31) (ls' := [(0, .ref (a0 0)), (1, .int p1), (2, .int p2), (3, .int p3)]) (st' := [.ref (a0 0)]) (decB_ok (by decide +kernel)) rfl rfl ?_
          refine V_get C (v := .ref (a0 3)) (by decide +kernel) 0 4 fk_RX4_24 rfl rfl ?_
          refine V_pb C hn [(.iload_n 1, 1)] (pc' := 35) (ls' := [(0, .ref (a0 0)), (1, .int p1), (2, .int p2), (3, .int p3)]) (st' := [.int p1, .ref (a0 3)]) (decB_ok (by decide +kernel)) rfl rfl ?_
          refine V_aald3 C (b := a0 (36 + 2 * ix p1)) (by decide +kernel) 3 3 rfl rfl h rfl (fun hf7 h => ?_)
          refine V_pb C hn [(.iload_n 2, 1), (.iload_n 3, 1)] (pc' := 38) (ls' := [(0, .ref (a0 0)), (1, .int p1), (2, .int p2), (3, .int p3)]) (st' := [.int p3, .int p2, .ref (a0 (36 + 2 * ix p1))]) (decB_ok (by decide +kernel)) rfl rfl ?_
          obtain ⟨q8, h9, h⟩ := bnd h
          obtain ⟨w10, e11, h⟩ := bnd h
          refine V_callV (ws' := wdX E.G a0 w10) C (As := [.int p2, .int p3]) (rest := []) (by decide +kernel) ok_yX2_takeRow mk_RX4_61 (cfX2_takeRow (l := E.l) (G := E.G) (fun j => a0 (36 + 2 * ix p1 + j)) h9) [(36 + 2 * ix p1), (36 + 2 * ix p1 + 1)] (q0 := 0) rfl (fc_X_sh (inb_lt hf7)) fn_X_sh rfl (by cases e11; exact (fs_X_sh (inb_lt hf7) _)) rfl rfl rfl rfl (Nat.le_of_ble_eq_true rfl) (Nat.le_of_ble_eq_true rfl) (Nat.le_of_ble_eq_true rfl) ?_
          show V E _ (wdX E.G a0 w10) 41 [(0, .ref (a0 0)), (1, .int p1), (2, .int p2), (3, .int p3)] []
          refine V_pb C hn [(.iconst 1, 1)] (pc' := 42) (ls' := [(0, .ref (a0 0)), (1, .int p1), (2, .int p2), (3, .int p3)]) (st' := [.int (1 : Int32)]) (decB_ok (by decide +kernel)) rfl rfl ?_
          have h := Option.some.inj h
          subst h
          exact V_iret C (by decide +kernel) rfl
set_option maxRecDepth 100000 in
set_option maxHeartbeats 400000 in
theorem cfX4_rowRefusal {l : Launch} {G : GG} (a0 : Nat → Nat) {p1 : Int32} {p2 : Int32} {p3 : Int32} {S0 : XT} {out : Int32} (h : fX4_rowRefusal p1 p2 p3 S0 = some out) : Con l G 1 yX4_rowRefusal cX4_rowRefusal 5 (some .int) [.ref (a0 0), .int p1, .int p2, .int p3] (wdX G a0 S0) (some (.int out)) (wdX G a0 S0) := by
  refine Con_of (by decide +kernel) (Nat.le_of_ble_eq_true rfl) (fun E hl hG hn C => ?_)
  subst hl
  subst hG
  have C : Ctx E cX4_rowRefusal RX4 1 (some .int) := C
  show V E _ _ 0 [(0, .ref (a0 0)), (1, .int p1), (2, .int p2), (3, .int p3)] []
  unfold fX4_rowRefusal at h
  refine V_pb C hn [(.iload_n 1, 1)] (pc' := 1) (ls' := [(0, .ref (a0 0)), (1, .int p1), (2, .int p2), (3, .int p3)]) (st' := [.int p1]) (decB_ok (by decide +kernel)) rfl rfl ?_
  obtain ⟨q1, h2, h⟩ := bnd h
  refine V_callSp C (As := [.int p1]) (rest := []) (by decide +kernel) ok_yX4_isShelf mk_RX4_50 (cfX4_isShelf (l := E.l) (G := E.G) h2) [] rfl rfl rfl rfl (Nat.le_of_ble_eq_true rfl) (Nat.le_of_ble_eq_true rfl) (Nat.le_of_ble_eq_true rfl) ?_
  show V E _ (wdX E.G a0 S0) 4 [(0, .ref (a0 0)), (1, .int p1), (2, .int p2), (3, .int p3)] [.int q1]
  refine V_if_eq C (off := 7) (tgt := 11) (by decide +kernel) (by decide) h (fun _ h => ?_) (fun _ h => ?_)
  · refine V_pb C hn [(.bipush (-2), 2)] (pc' := 13) (ls' := [(0, .ref (a0 0)), (1, .int p1), (2, .int p2), (3, .int p3)]) (st' := [.int (cI (-2))]) (decB_ok (by decide +kernel)) rfl rfl ?_
    have h := Option.some.inj h
    subst h
    exact V_iret C (by decide +kernel) rfl
  · refine V_pb C hn [(.iload_n 2, 1)] (pc' := 8) (ls' := [(0, .ref (a0 0)), (1, .int p1), (2, .int p2), (3, .int p3)]) (st' := [.int p2]) (decB_ok (by decide +kernel)) rfl rfl ?_
    refine V_if_ne C (off := 6) (tgt := 14) (by decide +kernel) (by decide) h (fun _ h => ?_) (fun _ h => ?_)
    · refine V_pb C hn [(.bipush (-2), 2)] (pc' := 13) (ls' := [(0, .ref (a0 0)), (1, .int p1), (2, .int p2), (3, .int p3)]) (st' := [.int (cI (-2))]) (decB_ok (by decide +kernel)) rfl rfl ?_
      have h := Option.some.inj h
      subst h
      exact V_iret C (by decide +kernel) rfl
    · refine V_pb C hn [(.aload_n 0, 1)] (pc' := 15) (ls' := [(0, .ref (a0 0)), (1, .int p1), (2, .int p2), (3, .int p3)]) (st' := [.ref (a0 0)]) (decB_ok (by decide +kernel)) rfl rfl ?_
      refine V_get C (v := .ref (a0 3)) (by decide +kernel) 0 4 fk_RX4_24 rfl rfl ?_
      refine V_pb C hn [(.iload_n 1, 1)] (pc' := 19) (ls' := [(0, .ref (a0 0)), (1, .int p1), (2, .int p2), (3, .int p3)]) (st' := [.int p1, .ref (a0 3)]) (decB_ok (by decide +kernel)) rfl rfl ?_
      refine V_aald3 C (b := a0 (36 + 2 * ix p1)) (by decide +kernel) 3 3 rfl rfl h rfl (fun hf3 h => ?_)
      refine V_pb C hn [(.astore 4, 2), (.aload 4, 2)] (pc' := 24) (ls' := [(0, .ref (a0 0)), (1, .int p1), (2, .int p2), (3, .int p3), (4, .ref (a0 (36 + 2 * ix p1)))]) (st' := [.ref (a0 (36 + 2 * ix p1))]) (decB_ok (by decide +kernel)) rfl rfl ?_
      refine V_get C (v := .int (sh_held ((x_sh S0) (ix p1)))) (by decide +kernel) (36 + 2 * ix p1) 0 fk_RX4_84 (fg_X_sh_0 (inb_lt hf3)) rfl ?_
      refine V_pb C hn [(.iconst 2, 1)] (pc' := 28) (ls' := [(0, .ref (a0 0)), (1, .int p1), (2, .int p2), (3, .int p3), (4, .ref (a0 (36 + 2 * ix p1)))]) (st' := [.int (2 : Int32), .int (sh_held ((x_sh S0) (ix p1)))]) (decB_ok (by decide +kernel)) rfl rfl ?_
      refine V_ic_ne C (off := 6) (tgt := 34) (by decide +kernel) (by decide) h (fun _ h => ?_) (fun _ h => ?_)
      · refine V_pb C hn [(.bipush (-3), 2)] (pc' := 33) (ls' := [(0, .ref (a0 0)), (1, .int p1), (2, .int p2), (3, .int p3), (4, .ref (a0 (36 + 2 * ix p1)))]) (st' := [.int (cI (-3))]) (decB_ok (by decide +kernel)) rfl rfl ?_
        have h := Option.some.inj h
        subst h
        exact V_iret C (by decide +kernel) rfl
      · refine V_pb C hn [(.aload 4, 2)] (pc' := 36) (ls' := [(0, .ref (a0 0)), (1, .int p1), (2, .int p2), (3, .int p3), (4, .ref (a0 (36 + 2 * ix p1)))]) (st' := [.ref (a0 (36 + 2 * ix p1))]) (decB_ok (by decide +kernel)) rfl rfl ?_
        refine V_get C (v := .int (sh_held ((x_sh S0) (ix p1)))) (by decide +kernel) (36 + 2 * ix p1) 0 fk_RX4_84 (fg_X_sh_0 (inb_lt hf3)) rfl ?_
        refine V_pb C hn [(.iconst 1, 1)] (pc' := 40) (ls' := [(0, .ref (a0 0)), (1, .int p1), (2, .int p2), (3, .int p3), (4, .ref (a0 (36 + 2 * ix p1)))]) (st' := [.int (1 : Int32), .int (sh_held ((x_sh S0) (ix p1)))]) (decB_ok (by decide +kernel)) rfl rfl ?_
        refine V_ic_eq C (off := 6) (tgt := 46) (by decide +kernel) (by decide) h (fun _ h => ?_) (fun _ h => ?_)
        · refine V_pb C hn [(.aload 4, 2)] (pc' := 48) (ls' := [(0, .ref (a0 0)), (1, .int p1), (2, .int p2), (3, .int p3), (4, .ref (a0 (36 + 2 * ix p1)))]) (st' := [.ref (a0 (36 + 2 * ix p1))]) (decB_ok (by decide +kernel)) rfl rfl ?_
          refine V_get C (v := .int (sh_size ((x_sh S0) (ix p1)))) (by decide +kernel) (36 + 2 * ix p1) 2 fk_RX4_324 (fg_X_sh_0 (inb_lt hf3)) rfl ?_
          refine V_pb C hn [(.iload_n 3, 1)] (pc' := 52) (ls' := [(0, .ref (a0 0)), (1, .int p1), (2, .int p2), (3, .int p3), (4, .ref (a0 (36 + 2 * ix p1)))]) (st' := [.int p3, .int (sh_size ((x_sh S0) (ix p1)))]) (decB_ok (by decide +kernel)) rfl rfl ?_
          refine V_ic_ge C (off := 8) (tgt := 60) (by decide +kernel) (by decide) h (fun _ h => ?_) (fun _ h => ?_)
          · refine V_pb C hn [(.iconst 0, 1)] (pc' := 61) (ls' := [(0, .ref (a0 0)), (1, .int p1), (2, .int p2), (3, .int p3), (4, .ref (a0 (36 + 2 * ix p1)))]) (st' := [.int (0 : Int32)]) (decB_ok (by decide +kernel)) rfl rfl ?_
            have h := Option.some.inj h
            subst h
            exact V_iret C (by decide +kernel) rfl
          · refine V_pb C hn [(.bipush (-2), 2)] (pc' := 57) (ls' := [(0, .ref (a0 0)), (1, .int p1), (2, .int p2), (3, .int p3), (4, .ref (a0 (36 + 2 * ix p1)))]) (st' := [.int (cI (-2))]) (decB_ok (by decide +kernel)) rfl rfl ?_
            refine V_goto C (off := 4) (tgt := 61) (by decide +kernel) (by decide) ?_
            have h := Option.some.inj h
            subst h
            exact V_iret C (by decide +kernel) rfl
        · refine V_pb C hn [(.bipush (-4), 2)] (pc' := 45) (ls' := [(0, .ref (a0 0)), (1, .int p1), (2, .int p2), (3, .int p3), (4, .ref (a0 (36 + 2 * ix p1)))]) (st' := [.int (cI (-4))]) (decB_ok (by decide +kernel)) rfl rfl ?_
          have h := Option.some.inj h
          subst h
          exact V_iret C (by decide +kernel) rfl
set_option maxRecDepth 100000 in
set_option maxHeartbeats 400000 in
theorem cfX4_narrowed {l : Launch} {G : GG} {p0 : Int32} {p1 : Int64} {out : Int64} (h : fX4_narrowed p0 p1 = some out) : Con l G 0 yX4_narrowed cX4_narrowed 3 (some .long) [.int p0, .long p1] (([] : va_W)) (some (.long out)) (([] : va_W)) := by
  refine Con_of (by decide +kernel) (Nat.le_of_ble_eq_true rfl) (fun E hl hG hn C => ?_)
  subst hl
  subst hG
  have C : Ctx E cX4_narrowed RX4 0 (some .long) := C
  show V E _ _ 0 [(0, .int p0), (1, .long p1)] []
  unfold fX4_narrowed at h
  refine V_pb C hn [(.iload_n 0, 1)] (pc' := 1) (ls' := [(0, .int p0), (1, .long p1)]) (st' := [.int p0]) (decB_ok (by decide +kernel)) rfl rfl ?_
  refine V_sw (0) ?_
  refine Sw_at C (dflt := 47) (lo := 0) (hi := 3) (offs := #[31, 36, 41, 45]) (len := 31) (off := 31) (v := (0 : Int32)) (tgt := 32) (by decide +kernel) (by decide) (by decide) (by decide) rfl (by decide) h (fun _ h => ?_) (fun _ h => ?_)
  · refine V_pb C hn [(.lload_n 1, 1), (.l2i, 1), (.i2b, 1), (.i2l, 1)] (pc' := 36) (ls' := [(0, .int p0), (1, .long p1)]) (st' := [.long p1.toInt32.toInt8.toInt32.toInt64]) (decB_ok (by decide +kernel)) rfl rfl ?_
    have h := Option.some.inj h
    subst h
    exact V_lret C (by decide +kernel)
  refine Sw_at C (dflt := 47) (lo := 0) (hi := 3) (offs := #[31, 36, 41, 45]) (len := 31) (off := 36) (v := (1 : Int32)) (tgt := 37) (by decide +kernel) (by decide) (by decide) (by decide) rfl (by decide) h (fun _ h => ?_) (fun _ h => ?_)
  · refine V_pb C hn [(.lload_n 1, 1), (.l2i, 1), (.i2s, 1), (.i2l, 1)] (pc' := 41) (ls' := [(0, .int p0), (1, .long p1)]) (st' := [.long p1.toInt32.toInt16.toInt32.toInt64]) (decB_ok (by decide +kernel)) rfl rfl ?_
    have h := Option.some.inj h
    subst h
    exact V_lret C (by decide +kernel)
  refine Sw_at C (dflt := 47) (lo := 0) (hi := 3) (offs := #[31, 36, 41, 45]) (len := 31) (off := 41) (v := (2 : Int32)) (tgt := 42) (by decide +kernel) (by decide) (by decide) (by decide) rfl (by decide) h (fun _ h => ?_) (fun _ h => ?_)
  · refine V_pb C hn [(.lload_n 1, 1), (.l2i, 1), (.i2l, 1)] (pc' := 45) (ls' := [(0, .int p0), (1, .long p1)]) (st' := [.long p1.toInt32.toInt64]) (decB_ok (by decide +kernel)) rfl rfl ?_
    have h := Option.some.inj h
    subst h
    exact V_lret C (by decide +kernel)
  refine Sw_at C (dflt := 47) (lo := 0) (hi := 3) (offs := #[31, 36, 41, 45]) (len := 31) (off := 45) (v := (3 : Int32)) (tgt := 46) (by decide +kernel) (by decide) (by decide) (by decide) rfl (by decide) h (fun _ h => ?_) (fun _ h => ?_)
  · refine V_pb C hn [(.lload_n 1, 1)] (pc' := 47) (ls' := [(0, .int p0), (1, .long p1)]) (st' := [.long p1]) (decB_ok (by decide +kernel)) rfl rfl ?_
    have h := Option.some.inj h
    subst h
    exact V_lret C (by decide +kernel)
  refine Sw_end C (dflt := 47) (lo := 0) (hi := 3) (offs := #[31, 36, 41, 45]) (len := 31) (tgt := 48) (by decide +kernel) (by decide) (by decide) ?_
  refine V_pb C hn [(.lload_n 1, 1), (.lconst 0, 1), (.lcmp, 1)] (pc' := 51) (ls' := [(0, .int p0), (1, .long p1)]) (st' := [.int (lg_cmp p1 (0 : Int64))]) (decB_ok (by decide +kernel)) rfl rfl ?_
  refine V_if_eq C (off := 7) (tgt := 58) (by decide +kernel) (by decide) h (fun _ h => ?_) (fun _ h => ?_)
  · refine V_pb C hn [(.lconst 0, 1)] (pc' := 59) (ls' := [(0, .int p0), (1, .long p1)]) (st' := [.long (0 : Int64)]) (decB_ok (by decide +kernel)) rfl rfl ?_
    have h := Option.some.inj h
    subst h
    exact V_lret C (by decide +kernel)
  · refine V_pb C hn [(.lconst 1, 1)] (pc' := 55) (ls' := [(0, .int p0), (1, .long p1)]) (st' := [.long (1 : Int64)]) (decB_ok (by decide +kernel)) rfl rfl ?_
    refine V_goto C (off := 4) (tgt := 59) (by decide +kernel) (by decide) ?_
    have h := Option.some.inj h
    subst h
    exact V_lret C (by decide +kernel)
set_option maxRecDepth 100000 in
set_option maxHeartbeats 400000 in
theorem cfX4_set {l : Launch} {G : GG} (a0 : Nat → Nat) {p1 : Int32} {p2 : Int32} {p3 : Int64} {S0 : XT} {out : Int32 × XT} (h : fX4_set p1 p2 p3 S0 = some out) : Con l G 2 yX4_set cX4_set 7 (some .int) [.ref (a0 0), .int p1, .int p2, .long p3] (wdX G a0 S0) (some (.int out.1)) (wdX G a0 out.2) := by
  refine Con_of (by decide +kernel) (Nat.le_of_ble_eq_true rfl) (fun E hl hG hn C => ?_)
  subst hl
  subst hG
  have C : Ctx E cX4_set RX4 2 (some .int) := C
  show V E _ _ 0 [(0, .ref (a0 0)), (1, .int p1), (2, .int p2), (3, .long p3)] []
  unfold fX4_set at h
  refine V_pb C hn [(.aload_n 0, 1), (.iload_n 1, 1), (.iconst 1, 1), (.iconst 0, 1)] (pc' := 4) (ls' := [(0, .ref (a0 0)), (1, .int p1), (2, .int p2), (3, .long p3)]) (st' := [.int (0 : Int32), .int (1 : Int32), .int p1, .ref (a0 0)]) (decB_ok (by decide +kernel)) rfl rfl ?_
  obtain ⟨q1, h2, h⟩ := bnd h
  refine V_callV0 C (As := [.int p1, .int (1 : Int32), .int (0 : Int32)]) (rest := []) (by decide +kernel) ok_yX4_rowRefusal mk_RX4_65 (cfX4_rowRefusal (l := E.l) (G := E.G) a0 h2) (q0 := 0) rfl rfl rfl rfl rfl rfl (Nat.le_of_ble_eq_true rfl) (Nat.le_of_ble_eq_true rfl) (Nat.le_of_ble_eq_true rfl) ?_
  show V E _ (wdX E.G a0 S0) 7 [(0, .ref (a0 0)), (1, .int p1), (2, .int p2), (3, .long p3)] [.int q1]
  refine V_pb C hn [(.istore 5, 2), (.iload 5, 2)] (pc' := 11) (ls' := [(0, .ref (a0 0)), (1, .int p1), (2, .int p2), (3, .long p3), (5, .int q1)]) (st' := [.int q1]) (decB_ok (by decide +kernel)) rfl rfl ?_
  refine V_if_eq C (off := 10) (tgt := 21) (by decide +kernel) (by decide) h (fun _ h => ?_) (fun _ h => ?_)
  · refine V_pb C hn [(.aload_n 0, 1)] (pc' := 22) (ls' := [(0, .ref (a0 0)), (1, .int p1), (2, .int p2), (3, .long p3), (5, .int q1)]) (st' := [.ref (a0 0)]) (decB_ok (by decide +kernel)) rfl rfl ?_
    refine V_get C (v := .ref (a0 3)) (by decide +kernel) 0 4 fk_RX4_24 rfl rfl ?_
    refine V_pb C hn [(.iload_n 1, 1)] (pc' := 26) (ls' := [(0, .ref (a0 0)), (1, .int p1), (2, .int p2), (3, .long p3), (5, .int q1)]) (st' := [.int p1, .ref (a0 3)]) (decB_ok (by decide +kernel)) rfl rfl ?_
    refine V_aald3 C (b := a0 (36 + 2 * ix p1)) (by decide +kernel) 3 3 rfl rfl h rfl (fun hf3 h => ?_)
    refine V_pb C hn [(.astore 6, 2), (.aload 6, 2), (.iload_n 2, 1)] (pc' := 32) (ls' := [(0, .ref (a0 0)), (1, .int p1), (2, .int p2), (3, .long p3), (5, .int q1), (6, .ref (a0 (36 + 2 * ix p1)))]) (st' := [.int p2, .ref (a0 (36 + 2 * ix p1))]) (decB_ok (by decide +kernel)) rfl rfl ?_
    obtain ⟨q4, h5, h⟩ := bnd h
    refine V_callVp C (As := [.int p2]) (rest := []) (by decide +kernel) ok_yX2_hasPlace mk_RX4_69 (cfX2_hasPlace (l := E.l) (G := E.G) (fun j => a0 (36 + 2 * ix p1 + j)) h5) [(36 + 2 * ix p1), (36 + 2 * ix p1 + 1)] (q0 := 0) rfl (fc_X_sh (inb_lt hf3)) fn_X_sh rfl rfl rfl rfl (Nat.le_of_ble_eq_true rfl) (Nat.le_of_ble_eq_true rfl) (Nat.le_of_ble_eq_true rfl) ?_
    show V E _ (wdX E.G a0 S0) 35 [(0, .ref (a0 0)), (1, .int p1), (2, .int p2), (3, .long p3), (5, .int q1), (6, .ref (a0 (36 + 2 * ix p1)))] [.int q4]
    refine V_if_ne C (off := 10) (tgt := 45) (by decide +kernel) (by decide) h (fun _ h => ?_) (fun _ h => ?_)
    · refine V_pb C hn [(.aload_n 0, 1), (.bipush (-2), 2)] (pc' := 41) (ls' := [(0, .ref (a0 0)), (1, .int p1), (2, .int p2), (3, .long p3), (5, .int q1), (6, .ref (a0 (36 + 2 * ix p1)))]) (st' := [.int (cI (-2)), .ref (a0 0)]) (decB_ok (by decide +kernel)) rfl rfl ?_
      obtain ⟨q6, h7, h⟩ := bnd h
      refine V_callV0 C (As := [.int (cI (-2))]) (rest := []) (by decide +kernel) ok_yX4_refuse mk_RX4_57 (cfX4_refuse (l := E.l) (G := E.G) a0 h7) (q0 := 0) rfl rfl rfl rfl rfl rfl (Nat.le_of_ble_eq_true rfl) (Nat.le_of_ble_eq_true rfl) (Nat.le_of_ble_eq_true rfl) ?_
      show V E _ (wdX E.G a0 q6.2) 44 [(0, .ref (a0 0)), (1, .int p1), (2, .int p2), (3, .long p3), (5, .int q1), (6, .ref (a0 (36 + 2 * ix p1)))] [.int q6.1]
      have h := Option.some.inj h
      subst h
      exact V_iret C (by decide +kernel) rfl
    · refine V_pb C hn [(.aload 6, 2)] (pc' := 47) (ls' := [(0, .ref (a0 0)), (1, .int p1), (2, .int p2), (3, .long p3), (5, .int q1), (6, .ref (a0 (36 + 2 * ix p1)))]) (st' := [.ref (a0 (36 + 2 * ix p1))]) (decB_ok (by decide +kernel)) rfl rfl ?_
      refine V_get C (v := .ref (a0 (36 + 2 * ix p1 + 1))) (by decide +kernel) (36 + 2 * ix p1) 4 fk_RX4_72 (fg_X_sh_0 (inb_lt hf3)) rfl ?_
      refine V_pb C hn [(.iload_n 2, 1), (.aload 6, 2)] (pc' := 53) (ls' := [(0, .ref (a0 0)), (1, .int p1), (2, .int p2), (3, .long p3), (5, .int q1), (6, .ref (a0 (36 + 2 * ix p1)))]) (st' := [.ref (a0 (36 + 2 * ix p1)), .int p2, .ref (a0 (36 + 2 * ix p1 + 1))]) (decB_ok (by decide +kernel)) rfl rfl ?_
      refine V_get C (v := .int (sh_sort ((x_sh S0) (ix p1)))) (by decide +kernel) (36 + 2 * ix p1) 1 fk_RX4_76 (fg_X_sh_0 (inb_lt hf3)) rfl ?_
      refine V_pb C hn [(.lload_n 3, 1)] (pc' := 57) (ls' := [(0, .ref (a0 0)), (1, .int p1), (2, .int p2), (3, .long p3), (5, .int q1), (6, .ref (a0 (36 + 2 * ix p1)))]) (st' := [.long p3, .int (sh_sort ((x_sh S0) (ix p1))), .int p2, .ref (a0 (36 + 2 * ix p1 + 1))]) (decB_ok (by decide +kernel)) rfl rfl ?_
      obtain ⟨q8, h9, h⟩ := bnd h
      refine V_callSp C (As := [.int (sh_sort ((x_sh S0) (ix p1))), .long p3]) (rest := [.int p2, .ref (a0 (36 + 2 * ix p1 + 1))]) (by decide +kernel) ok_yX4_narrowed mk_RX4_80 (cfX4_narrowed (l := E.l) (G := E.G) h9) [] rfl rfl rfl rfl (Nat.le_of_ble_eq_true rfl) (Nat.le_of_ble_eq_true rfl) (Nat.le_of_ble_eq_true rfl) ?_
      show V E _ (wdX E.G a0 S0) 60 [(0, .ref (a0 0)), (1, .int p1), (2, .int p2), (3, .long p3), (5, .int q1), (6, .ref (a0 (36 + 2 * ix p1)))] [.long q8, .int p2, .ref (a0 (36 + 2 * ix p1 + 1))]
      obtain ⟨hb9, h⟩ := gd_some h
      obtain ⟨w10, e11, h⟩ := bnd h
      refine V_last C (f := (sh_elements ((x_sh S0) (ix p1)))) (ws' := wdX E.G a0 w10) (by decide +kernel) (36 + 2 * ix p1 + 1) (fg_X_sh_1 (inb_lt hf3)) (o := some ()) (out := ()) (by rw [hb9]; rfl) (by cases e11; exact fp_X_sh_elements (inb_lt hf3) (vp_updL (sh_elements ((x_sh S0) (ix p1))) (ix p2) q8)) (fun _ => ?_)
      refine V_pb C hn [(.iconst 1, 1)] (pc' := 62) (ls' := [(0, .ref (a0 0)), (1, .int p1), (2, .int p2), (3, .long p3), (5, .int q1), (6, .ref (a0 (36 + 2 * ix p1)))]) (st' := [.int (1 : Int32)]) (decB_ok (by decide +kernel)) rfl rfl ?_
      have h := Option.some.inj h
      subst h
      exact V_iret C (by decide +kernel) rfl
  · refine V_pb C hn [(.aload_n 0, 1), (.iload 5, 2)] (pc' := 17) (ls' := [(0, .ref (a0 0)), (1, .int p1), (2, .int p2), (3, .long p3), (5, .int q1)]) (st' := [.int q1, .ref (a0 0)]) (decB_ok (by decide +kernel)) rfl rfl ?_
    obtain ⟨q12, h13, h⟩ := bnd h
    refine V_callV0 C (As := [.int q1]) (rest := []) (by decide +kernel) ok_yX4_refuse mk_RX4_57 (cfX4_refuse (l := E.l) (G := E.G) a0 h13) (q0 := 0) rfl rfl rfl rfl rfl rfl (Nat.le_of_ble_eq_true rfl) (Nat.le_of_ble_eq_true rfl) (Nat.le_of_ble_eq_true rfl) ?_
    show V E _ (wdX E.G a0 q12.2) 20 [(0, .ref (a0 0)), (1, .int p1), (2, .int p2), (3, .long p3), (5, .int q1)] [.int q12.1]
    have h := Option.some.inj h
    subst h
    exact V_iret C (by decide +kernel) rfl
set_option maxRecDepth 100000 in
set_option maxHeartbeats 400000 in
theorem cfX4_copy_j14 {E : VE} (C : Ctx E cX4_copy RX4 1 (some .int)) (hn : E.nL = 9) {a0 : Nat → Nat} {p1 : Int32} {p2 : Int32} {p3 : Int32} {p4 : Int32} {p5 : Int32} {S0 : XT} {out : Int32 × XT} (h : fX4_copy_j14 p1 p2 p3 p4 p5 S0 = some out) : V E (QR E (some (.int out.1)) (wdX E.G a0 out.2)) (wdX E.G a0 S0) 14 [(0, .ref (a0 0))] [] := by
  unfold fX4_copy_j14 at h
  refine V_pb C hn [(.aload_n 0, 1), (.bipush (-2), 2)] (pc' := 17) (ls' := [(0, .ref (a0 0))]) (st' := [.int (cI (-2)), .ref (a0 0)]) (decB_ok (by decide +kernel)) rfl rfl ?_
  obtain ⟨q3, h4, h⟩ := bnd h
  refine V_callV0 C (As := [.int (cI (-2))]) (rest := []) (by decide +kernel) ok_yX4_refuse mk_RX4_57 (cfX4_refuse (l := E.l) (G := E.G) a0 h4) (q0 := 0) rfl rfl rfl rfl rfl rfl (Nat.le_of_ble_eq_true rfl) (Nat.le_of_ble_eq_true rfl) (Nat.le_of_ble_eq_true rfl) ?_
  show V E _ (wdX E.G a0 q3.2) 20 [(0, .ref (a0 0))] [.int q3.1]
  have h := Option.some.inj h
  subst h
  exact V_iret C (by decide +kernel) rfl
set_option maxRecDepth 100000 in
set_option maxHeartbeats 400000 in
theorem cfX4_copy_j98 {E : VE} (C : Ctx E cX4_copy RX4 1 (some .int)) (hn : E.nL = 9) {a0 : Nat → Nat} {p1 : Int32} {p2 : Int32} {p3 : Int32} {p4 : Int32} {p5 : Int32} {S0 : XT} {out : Int32 × XT} (h : fX4_copy_j98 p1 p2 p3 p4 p5 S0 = some out) : V E (QR E (some (.int out.1)) (wdX E.G a0 out.2)) (wdX E.G a0 S0) 98 [(0, .ref (a0 0))] [] := by
  unfold fX4_copy_j98 at h
  refine V_pb C hn [(.aload_n 0, 1), (.bipush (-3), 2)] (pc' := 101) (ls' := [(0, .ref (a0 0))]) (st' := [.int (cI (-3)), .ref (a0 0)]) (decB_ok (by decide +kernel)) rfl rfl ?_
  obtain ⟨q9, h10, h⟩ := bnd h
  refine V_callV0 C (As := [.int (cI (-3))]) (rest := []) (by decide +kernel) ok_yX4_refuse mk_RX4_57 (cfX4_refuse (l := E.l) (G := E.G) a0 h10) (q0 := 0) rfl rfl rfl rfl rfl rfl (Nat.le_of_ble_eq_true rfl) (Nat.le_of_ble_eq_true rfl) (Nat.le_of_ble_eq_true rfl) ?_
  show V E _ (wdX E.G a0 q9.2) 104 [(0, .ref (a0 0))] [.int q9.1]
  have h := Option.some.inj h
  subst h
  exact V_iret C (by decide +kernel) rfl
set_option maxRecDepth 100000 in
set_option maxHeartbeats 400000 in
theorem cfX4_copy_j140 {E : VE} (C : Ctx E cX4_copy RX4 1 (some .int)) (hn : E.nL = 9) {a0 : Nat → Nat} {p1 : Int32} {p2 : Int32} {p3 : Int32} {p4 : Int32} {p5 : Int32} {S0 : XT} {out : Int32 × XT} (h : fX4_copy_j140 p1 p2 p3 p4 p5 S0 = some out) : V E (QR E (some (.int out.1)) (wdX E.G a0 out.2)) (wdX E.G a0 S0) 140 [(0, .ref (a0 0))] [] := by
  unfold fX4_copy_j140 at h
  refine V_pb C hn [(.aload_n 0, 1), (.bipush (-2), 2)] (pc' := 143) (ls' := [(0, .ref (a0 0))]) (st' := [.int (cI (-2)), .ref (a0 0)]) (decB_ok (by decide +kernel)) rfl rfl ?_
  obtain ⟨q15, h16, h⟩ := bnd h
  refine V_callV0 C (As := [.int (cI (-2))]) (rest := []) (by decide +kernel) ok_yX4_refuse mk_RX4_57 (cfX4_refuse (l := E.l) (G := E.G) a0 h16) (q0 := 0) rfl rfl rfl rfl rfl rfl (Nat.le_of_ble_eq_true rfl) (Nat.le_of_ble_eq_true rfl) (Nat.le_of_ble_eq_true rfl) ?_
  show V E _ (wdX E.G a0 q15.2) 146 [(0, .ref (a0 0))] [.int q15.1]
  have h := Option.some.inj h
  subst h
  exact V_iret C (by decide +kernel) rfl
set_option maxRecDepth 100000 in
set_option maxHeartbeats 400000 in
theorem cfX4_copy_j105 {E : VE} (C : Ctx E cX4_copy RX4 1 (some .int)) (hn : E.nL = 9) {a0 : Nat → Nat} {p1 : Int32} {p2 : Int32} {p3 : Int32} {p4 : Int32} {p5 : Int32} {v8 : Int32} {S0 : XT} {out : Int32 × XT} (hf0 : inb p1 8 = true) (hf1 : inb p2 8 = true) (h : fX4_copy_j105 p1 p2 p3 p4 p5 v8 S0 = some out) : V E (QR E (some (.int out.1)) (wdX E.G a0 out.2)) (wdX E.G a0 S0) 105 [(0, .ref (a0 0)), (3, .int p3), (4, .int p4), (5, .int p5), (6, .ref (a0 (36 + 2 * ix p1))), (7, .ref (a0 (36 + 2 * ix p2))), (8, .int v8)] [] := by
  unfold fX4_copy_j105 at h
  refine V_pb C hn [(.iload 8, 2)] (pc' := 107) (ls' := [(0, .ref (a0 0)), (3, .int p3), (4, .int p4), (5, .int p5), (6, .ref (a0 (36 + 2 * ix p1))), (7, .ref (a0 (36 + 2 * ix p2))), (8, .int v8)]) (st' := [.int v8]) (decB_ok (by decide +kernel)) rfl rfl ?_
  refine V_if_ne C (off := 10) (tgt := 117) (by decide +kernel) (by decide) h (fun _ h => ?_) (fun _ h => ?_)
  · refine V_pb C hn [(.aload_n 0, 1), (.bipush (-4), 2)] (pc' := 113) (ls' := [(0, .ref (a0 0)), (3, .int p3), (4, .int p4), (5, .int p5), (6, .ref (a0 (36 + 2 * ix p1))), (7, .ref (a0 (36 + 2 * ix p2))), (8, .int v8)]) (st' := [.int (cI (-4)), .ref (a0 0)]) (decB_ok (by decide +kernel)) rfl rfl ?_
    obtain ⟨q11, h12, h⟩ := bnd h
    refine V_callV0 C (As := [.int (cI (-4))]) (rest := []) (by decide +kernel) ok_yX4_refuse mk_RX4_57 (cfX4_refuse (l := E.l) (G := E.G) a0 h12) (q0 := 0) rfl rfl rfl rfl rfl rfl (Nat.le_of_ble_eq_true rfl) (Nat.le_of_ble_eq_true rfl) (Nat.le_of_ble_eq_true rfl) ?_
    show V E _ (wdX E.G a0 q11.2) 116 [(0, .ref (a0 0)), (3, .int p3), (4, .int p4), (5, .int p5), (6, .ref (a0 (36 + 2 * ix p1))), (7, .ref (a0 (36 + 2 * ix p2))), (8, .int v8)] [.int q11.1]
    have h := Option.some.inj h
    subst h
    exact V_iret C (by decide +kernel) rfl
  · refine V_pb C hn [(.aload 6, 2), (.iload_n 3, 1), (.iload 5, 2)] (pc' := 122) (ls' := [(0, .ref (a0 0)), (3, .int p3), (4, .int p4), (5, .int p5), (6, .ref (a0 (36 + 2 * ix p1))), (7, .ref (a0 (36 + 2 * ix p2))), (8, .int v8)]) (st' := [.int p5, .int p3, .ref (a0 (36 + 2 * ix p1))]) (decB_ok (by decide +kernel)) rfl rfl ?_
    obtain ⟨q13, h14, h⟩ := bnd h
    refine V_callVp C (As := [.int p3, .int p5]) (rest := []) (by decide +kernel) ok_yX2_hasPlaces mk_RX4_87 (cfX2_hasPlaces (l := E.l) (G := E.G) (fun j => a0 (36 + 2 * ix p1 + j)) h14) [(36 + 2 * ix p1), (36 + 2 * ix p1 + 1)] (q0 := 0) rfl (fc_X_sh (inb_lt hf0)) fn_X_sh rfl rfl rfl rfl (Nat.le_of_ble_eq_true rfl) (Nat.le_of_ble_eq_true rfl) (Nat.le_of_ble_eq_true rfl) ?_
    show V E _ (wdX E.G a0 S0) 125 [(0, .ref (a0 0)), (3, .int p3), (4, .int p4), (5, .int p5), (6, .ref (a0 (36 + 2 * ix p1))), (7, .ref (a0 (36 + 2 * ix p2))), (8, .int v8)] [.int q13]
    refine V_if_eq C (off := 15) (tgt := 140) (by decide +kernel) (by decide) h (fun _ h => ?_) (fun _ h => ?_)
    · refine V_sub (ls' := [(0, .ref (a0 0))]) rfl ?_
      exact cfX4_copy_j140 C hn h
    · refine V_pb C hn [(.aload 7, 2), (.iload 4, 2), (.iload 5, 2)] (pc' := 134) (ls' := [(0, .ref (a0 0)), (3, .int p3), (4, .int p4), (5, .int p5), (6, .ref (a0 (36 + 2 * ix p1))), (7, .ref (a0 (36 + 2 * ix p2))), (8, .int v8)]) (st' := [.int p5, .int p4, .ref (a0 (36 + 2 * ix p2))]) (decB_ok (by decide +kernel)) rfl rfl ?_
      obtain ⟨q17, h18, h⟩ := bnd h
      refine V_callVp C (As := [.int p4, .int p5]) (rest := []) (by decide +kernel) ok_yX2_hasPlaces mk_RX4_87 (cfX2_hasPlaces (l := E.l) (G := E.G) (fun j => a0 (36 + 2 * ix p2 + j)) h18) [(36 + 2 * ix p2), (36 + 2 * ix p2 + 1)] (q0 := 0) rfl (fc_X_sh (inb_lt hf1)) fn_X_sh rfl rfl rfl rfl (Nat.le_of_ble_eq_true rfl) (Nat.le_of_ble_eq_true rfl) (Nat.le_of_ble_eq_true rfl) ?_
      show V E _ (wdX E.G a0 S0) 137 [(0, .ref (a0 0)), (3, .int p3), (4, .int p4), (5, .int p5), (6, .ref (a0 (36 + 2 * ix p1))), (7, .ref (a0 (36 + 2 * ix p2))), (8, .int v8)] [.int q17]
      refine V_if_ne C (off := 10) (tgt := 147) (by decide +kernel) (by decide) h (fun _ h => ?_) (fun _ h => ?_)
      · refine V_sub (ls' := [(0, .ref (a0 0))]) rfl ?_
        exact cfX4_copy_j140 C hn h
      · refine V_pb C hn [(.aload 6, 2)] (pc' := 149) (ls' := [(0, .ref (a0 0)), (3, .int p3), (4, .int p4), (5, .int p5), (6, .ref (a0 (36 + 2 * ix p1))), (7, .ref (a0 (36 + 2 * ix p2))), (8, .int v8)]) (st' := [.ref (a0 (36 + 2 * ix p1))]) (decB_ok (by decide +kernel)) rfl rfl ?_
        refine V_get C (v := .ref (a0 (36 + 2 * ix p1 + 1))) (by decide +kernel) (36 + 2 * ix p1) 4 fk_RX4_72 (fg_X_sh_0 (inb_lt hf0)) rfl ?_
        refine V_pb C hn [(.iload_n 3, 1), (.aload 7, 2)] (pc' := 155) (ls' := [(0, .ref (a0 0)), (3, .int p3), (4, .int p4), (5, .int p5), (6, .ref (a0 (36 + 2 * ix p1))), (7, .ref (a0 (36 + 2 * ix p2))), (8, .int v8)]) (st' := [.ref (a0 (36 + 2 * ix p2)), .int p3, .ref (a0 (36 + 2 * ix p1 + 1))]) (decB_ok (by decide +kernel)) rfl rfl ?_
        refine V_get C (v := .ref (a0 (36 + 2 * ix p2 + 1))) (by decide +kernel) (36 + 2 * ix p2) 4 fk_RX4_72 (fg_X_sh_0 (inb_lt hf1)) rfl ?_
        refine V_pb C hn [(.iload 4, 2), (.iload 5, 2)] (pc' := 162) (ls' := [(0, .ref (a0 0)), (3, .int p3), (4, .int p4), (5, .int p5), (6, .ref (a0 (36 + 2 * ix p1))), (7, .ref (a0 (36 + 2 * ix p2))), (8, .int v8)]) (st' := [.int p5, .int p4, .ref (a0 (36 + 2 * ix p2 + 1)), .int p3, .ref (a0 (36 + 2 * ix p1 + 1))]) (decB_ok (by decide +kernel)) rfl rfl ?_
        obtain ⟨hb9, h⟩ := gd_some h
        obtain ⟨w19, e20, h⟩ := bnd h
        refine V_acpL C (f := (sh_elements ((x_sh S0) (ix p1)))) (g := (sh_elements ((x_sh S0) (ix p2)))) (ws' := wdX E.G a0 w19) (by decide +kernel) mk_RX4_91 (36 + 2 * ix p1 + 1) (36 + 2 * ix p2 + 1) (fg_X_sh_1 (inb_lt hf0)) (fg_X_sh_1 (inb_lt hf1)) (o := some ()) (out := ()) (by rw [hb9]; rfl) (by cases e20; exact fp_X_sh_elements (inb_lt hf1) (cpa (sh_elements ((x_sh S0) (ix p1))) (sh_elements ((x_sh S0) (ix p2))) p3 p4 p5)) (Nat.le_of_ble_eq_true rfl) (Nat.le_of_ble_eq_true rfl) (fun _ => ?_)
        show V E _ (wdX E.G a0 w19) 165 [(0, .ref (a0 0)), (3, .int p3), (4, .int p4), (5, .int p5), (6, .ref (a0 (36 + 2 * ix p1))), (7, .ref (a0 (36 + 2 * ix p2))), (8, .int v8)] []
        refine V_pb C hn [(.iload 5, 2)] (pc' := 167) (ls' := [(0, .ref (a0 0)), (3, .int p3), (4, .int p4), (5, .int p5), (6, .ref (a0 (36 + 2 * ix p1))), (7, .ref (a0 (36 + 2 * ix p2))), (8, .int v8)]) (st' := [.int p5]) (decB_ok (by decide +kernel)) rfl rfl ?_
        have h := Option.some.inj h
        subst h
        exact V_iret C (by decide +kernel) rfl
set_option maxRecDepth 100000 in
set_option maxHeartbeats 400000 in
theorem cfX4_copy_j60 {E : VE} (C : Ctx E cX4_copy RX4 1 (some .int)) (hn : E.nL = 9) {a0 : Nat → Nat} {p1 : Int32} {p2 : Int32} {p3 : Int32} {p4 : Int32} {p5 : Int32} {s0 : Int32} {S0 : XT} {out : Int32 × XT} (hf0 : inb p1 8 = true) (hf1 : inb p2 8 = true) (h : fX4_copy_j60 p1 p2 p3 p4 p5 s0 S0 = some out) : V E (QR E (some (.int out.1)) (wdX E.G a0 out.2)) (wdX E.G a0 S0) 60 [(0, .ref (a0 0)), (3, .int p3), (4, .int p4), (5, .int p5), (6, .ref (a0 (36 + 2 * ix p1))), (7, .ref (a0 (36 + 2 * ix p2)))] [.int s0] := by
  unfold fX4_copy_j60 at h
  refine V_pb C hn [(.istore 8, 2), (.aload 6, 2)] (pc' := 64) (ls' := [(0, .ref (a0 0)), (3, .int p3), (4, .int p4), (5, .int p5), (6, .ref (a0 (36 + 2 * ix p1))), (7, .ref (a0 (36 + 2 * ix p2))), (8, .int s0)]) (st' := [.ref (a0 (36 + 2 * ix p1))]) (decB_ok (by decide +kernel)) rfl rfl ?_
  refine V_get C (v := .int (sh_held ((x_sh S0) (ix p1)))) (by decide +kernel) (36 + 2 * ix p1) 0 fk_RX4_84 (fg_X_sh_0 (inb_lt hf0)) rfl ?_
  refine V_pb C hn [(.iconst 2, 1)] (pc' := 68) (ls' := [(0, .ref (a0 0)), (3, .int p3), (4, .int p4), (5, .int p5), (6, .ref (a0 (36 + 2 * ix p1))), (7, .ref (a0 (36 + 2 * ix p2))), (8, .int s0)]) (st' := [.int (2 : Int32), .int (sh_held ((x_sh S0) (ix p1)))]) (decB_ok (by decide +kernel)) rfl rfl ?_
  refine V_ic_eq C (off := 30) (tgt := 98) (by decide +kernel) (by decide) h (fun _ h => ?_) (fun _ h => ?_)
  · refine V_sub (ls' := [(0, .ref (a0 0))]) rfl ?_
    exact cfX4_copy_j98 C hn h
  · refine V_pb C hn [(.aload 7, 2)] (pc' := 73) (ls' := [(0, .ref (a0 0)), (3, .int p3), (4, .int p4), (5, .int p5), (6, .ref (a0 (36 + 2 * ix p1))), (7, .ref (a0 (36 + 2 * ix p2))), (8, .int s0)]) (st' := [.ref (a0 (36 + 2 * ix p2))]) (decB_ok (by decide +kernel)) rfl rfl ?_
    refine V_get C (v := .int (sh_held ((x_sh S0) (ix p2)))) (by decide +kernel) (36 + 2 * ix p2) 0 fk_RX4_84 (fg_X_sh_0 (inb_lt hf1)) rfl ?_
    refine V_pb C hn [(.iconst 2, 1)] (pc' := 77) (ls' := [(0, .ref (a0 0)), (3, .int p3), (4, .int p4), (5, .int p5), (6, .ref (a0 (36 + 2 * ix p1))), (7, .ref (a0 (36 + 2 * ix p2))), (8, .int s0)]) (st' := [.int (2 : Int32), .int (sh_held ((x_sh S0) (ix p2)))]) (decB_ok (by decide +kernel)) rfl rfl ?_
    refine V_ic_eq C (off := 21) (tgt := 98) (by decide +kernel) (by decide) h (fun _ h => ?_) (fun _ h => ?_)
    · refine V_sub (ls' := [(0, .ref (a0 0))]) rfl ?_
      exact cfX4_copy_j98 C hn h
    · refine V_pb C hn [(.iload 8, 2)] (pc' := 82) (ls' := [(0, .ref (a0 0)), (3, .int p3), (4, .int p4), (5, .int p5), (6, .ref (a0 (36 + 2 * ix p1))), (7, .ref (a0 (36 + 2 * ix p2))), (8, .int s0)]) (st' := [.int s0]) (decB_ok (by decide +kernel)) rfl rfl ?_
      refine V_if_eq C (off := 23) (tgt := 105) (by decide +kernel) (by decide) h (fun _ h => ?_) (fun _ h => ?_)
      · refine V_sub (ls' := [(0, .ref (a0 0)), (3, .int p3), (4, .int p4), (5, .int p5), (6, .ref (a0 (36 + 2 * ix p1))), (7, .ref (a0 (36 + 2 * ix p2))), (8, .int s0)]) rfl ?_
        exact cfX4_copy_j105 C hn hf0 hf1 h
      · refine V_pb C hn [(.aload 6, 2)] (pc' := 87) (ls' := [(0, .ref (a0 0)), (3, .int p3), (4, .int p4), (5, .int p5), (6, .ref (a0 (36 + 2 * ix p1))), (7, .ref (a0 (36 + 2 * ix p2))), (8, .int s0)]) (st' := [.ref (a0 (36 + 2 * ix p1))]) (decB_ok (by decide +kernel)) rfl rfl ?_
        refine V_get C (v := .int (sh_sort ((x_sh S0) (ix p1)))) (by decide +kernel) (36 + 2 * ix p1) 1 fk_RX4_76 (fg_X_sh_0 (inb_lt hf0)) rfl ?_
        refine V_pb C hn [(.aload 7, 2)] (pc' := 92) (ls' := [(0, .ref (a0 0)), (3, .int p3), (4, .int p4), (5, .int p5), (6, .ref (a0 (36 + 2 * ix p1))), (7, .ref (a0 (36 + 2 * ix p2))), (8, .int s0)]) (st' := [.ref (a0 (36 + 2 * ix p2)), .int (sh_sort ((x_sh S0) (ix p1)))]) (decB_ok (by decide +kernel)) rfl rfl ?_
        refine V_get C (v := .int (sh_sort ((x_sh S0) (ix p2)))) (by decide +kernel) (36 + 2 * ix p2) 1 fk_RX4_76 (fg_X_sh_0 (inb_lt hf1)) rfl ?_
        refine V_ic_eq C (off := 10) (tgt := 105) (by decide +kernel) (by decide) h (fun _ h => ?_) (fun _ h => ?_)
        · refine V_sub (ls' := [(0, .ref (a0 0)), (3, .int p3), (4, .int p4), (5, .int p5), (6, .ref (a0 (36 + 2 * ix p1))), (7, .ref (a0 (36 + 2 * ix p2))), (8, .int s0)]) rfl ?_
          exact cfX4_copy_j105 C hn hf0 hf1 h
        · refine V_sub (ls' := [(0, .ref (a0 0))]) rfl ?_
          exact cfX4_copy_j98 C hn h
set_option maxRecDepth 100000 in
set_option maxHeartbeats 400000 in
theorem cfX4_copy_j59 {E : VE} (C : Ctx E cX4_copy RX4 1 (some .int)) (hn : E.nL = 9) {a0 : Nat → Nat} {p1 : Int32} {p2 : Int32} {p3 : Int32} {p4 : Int32} {p5 : Int32} {S0 : XT} {out : Int32 × XT} (hf0 : inb p1 8 = true) (hf1 : inb p2 8 = true) (h : fX4_copy_j59 p1 p2 p3 p4 p5 S0 = some out) : V E (QR E (some (.int out.1)) (wdX E.G a0 out.2)) (wdX E.G a0 S0) 59 [(0, .ref (a0 0)), (3, .int p3), (4, .int p4), (5, .int p5), (6, .ref (a0 (36 + 2 * ix p1))), (7, .ref (a0 (36 + 2 * ix p2)))] [] := by
  unfold fX4_copy_j59 at h
  refine V_pb C hn [(.iconst 0, 1)] (pc' := 60) (ls' := [(0, .ref (a0 0)), (3, .int p3), (4, .int p4), (5, .int p5), (6, .ref (a0 (36 + 2 * ix p1))), (7, .ref (a0 (36 + 2 * ix p2)))]) (st' := [.int (0 : Int32)]) (decB_ok (by decide +kernel)) rfl rfl ?_
  refine V_sub (ls' := [(0, .ref (a0 0)), (3, .int p3), (4, .int p4), (5, .int p5), (6, .ref (a0 (36 + 2 * ix p1))), (7, .ref (a0 (36 + 2 * ix p2)))]) rfl ?_
  exact cfX4_copy_j60 C hn hf0 hf1 h
set_option maxRecDepth 100000 in
set_option maxHeartbeats 400000 in
theorem cfX4_copy {l : Launch} {G : GG} (a0 : Nat → Nat) {p1 : Int32} {p2 : Int32} {p3 : Int32} {p4 : Int32} {p5 : Int32} {S0 : XT} {out : Int32 × XT} (h : fX4_copy p1 p2 p3 p4 p5 S0 = some out) : Con l G 1 yX4_copy cX4_copy 9 (some .int) [.ref (a0 0), .int p1, .int p2, .int p3, .int p4, .int p5] (wdX G a0 S0) (some (.int out.1)) (wdX G a0 out.2) := by
  refine Con_of (by decide +kernel) (Nat.le_of_ble_eq_true rfl) (fun E hl hG hn C => ?_)
  subst hl
  subst hG
  have C : Ctx E cX4_copy RX4 1 (some .int) := C
  show V E _ _ 0 [(0, .ref (a0 0)), (1, .int p1), (2, .int p2), (3, .int p3), (4, .int p4), (5, .int p5)] []
  unfold fX4_copy at h
  refine V_pb C hn [(.iload_n 1, 1)] (pc' := 1) (ls' := [(0, .ref (a0 0)), (1, .int p1), (2, .int p2), (3, .int p3), (4, .int p4), (5, .int p5)]) (st' := [.int p1]) (decB_ok (by decide +kernel)) rfl rfl ?_
  obtain ⟨q1, h2, h⟩ := bnd h
  refine V_callSp C (As := [.int p1]) (rest := []) (by decide +kernel) ok_yX4_isShelf mk_RX4_50 (cfX4_isShelf (l := E.l) (G := E.G) h2) [] rfl rfl rfl rfl (Nat.le_of_ble_eq_true rfl) (Nat.le_of_ble_eq_true rfl) (Nat.le_of_ble_eq_true rfl) ?_
  show V E _ (wdX E.G a0 S0) 4 [(0, .ref (a0 0)), (1, .int p1), (2, .int p2), (3, .int p3), (4, .int p4), (5, .int p5)] [.int q1]
  refine V_if_eq C (off := 10) (tgt := 14) (by decide +kernel) (by decide) h (fun _ h => ?_) (fun _ h => ?_)
  · refine V_sub (ls' := [(0, .ref (a0 0))]) rfl ?_
    exact cfX4_copy_j14 C hn h
  · refine V_pb C hn [(.iload_n 2, 1)] (pc' := 8) (ls' := [(0, .ref (a0 0)), (1, .int p1), (2, .int p2), (3, .int p3), (4, .int p4), (5, .int p5)]) (st' := [.int p2]) (decB_ok (by decide +kernel)) rfl rfl ?_
    obtain ⟨q5, h6, h⟩ := bnd h
    refine V_callSp C (As := [.int p2]) (rest := []) (by decide +kernel) ok_yX4_isShelf mk_RX4_50 (cfX4_isShelf (l := E.l) (G := E.G) h6) [] rfl rfl rfl rfl (Nat.le_of_ble_eq_true rfl) (Nat.le_of_ble_eq_true rfl) (Nat.le_of_ble_eq_true rfl) ?_
    show V E _ (wdX E.G a0 S0) 11 [(0, .ref (a0 0)), (1, .int p1), (2, .int p2), (3, .int p3), (4, .int p4), (5, .int p5)] [.int q5]
    refine V_if_ne C (off := 10) (tgt := 21) (by decide +kernel) (by decide) h (fun _ h => ?_) (fun _ h => ?_)
    · refine V_sub (ls' := [(0, .ref (a0 0))]) rfl ?_
      exact cfX4_copy_j14 C hn h
    · refine V_pb C hn [(.aload_n 0, 1)] (pc' := 22) (ls' := [(0, .ref (a0 0)), (1, .int p1), (2, .int p2), (3, .int p3), (4, .int p4), (5, .int p5)]) (st' := [.ref (a0 0)]) (decB_ok (by decide +kernel)) rfl rfl ?_
      refine V_get C (v := .ref (a0 3)) (by decide +kernel) 0 4 fk_RX4_24 rfl rfl ?_
      refine V_pb C hn [(.iload_n 1, 1)] (pc' := 26) (ls' := [(0, .ref (a0 0)), (1, .int p1), (2, .int p2), (3, .int p3), (4, .int p4), (5, .int p5)]) (st' := [.int p1, .ref (a0 3)]) (decB_ok (by decide +kernel)) rfl rfl ?_
      refine V_aald3 C (b := a0 (36 + 2 * ix p1)) (by decide +kernel) 3 3 rfl rfl h rfl (fun hf7 h => ?_)
      refine V_pb C hn [(.astore 6, 2), (.aload_n 0, 1)] (pc' := 30) (ls' := [(0, .ref (a0 0)), (1, .int p1), (2, .int p2), (3, .int p3), (4, .int p4), (5, .int p5), (6, .ref (a0 (36 + 2 * ix p1)))]) (st' := [.ref (a0 0)]) (decB_ok (by decide +kernel)) rfl rfl ?_
      refine V_get C (v := .ref (a0 3)) (by decide +kernel) 0 4 fk_RX4_24 rfl rfl ?_
      refine V_pb C hn [(.iload_n 2, 1)] (pc' := 34) (ls' := [(0, .ref (a0 0)), (1, .int p1), (2, .int p2), (3, .int p3), (4, .int p4), (5, .int p5), (6, .ref (a0 (36 + 2 * ix p1)))]) (st' := [.int p2, .ref (a0 3)]) (decB_ok (by decide +kernel)) rfl rfl ?_
      refine V_aald3 C (b := a0 (36 + 2 * ix p2)) (by decide +kernel) 3 3 rfl rfl h rfl (fun hf8 h => ?_)
      refine V_pb C hn [(.astore 7, 2), (.aload 6, 2)] (pc' := 39) (ls' := [(0, .ref (a0 0)), (1, .int p1), (2, .int p2), (3, .int p3), (4, .int p4), (5, .int p5), (6, .ref (a0 (36 + 2 * ix p1))), (7, .ref (a0 (36 + 2 * ix p2)))]) (st' := [.ref (a0 (36 + 2 * ix p1))]) (decB_ok (by decide +kernel)) rfl rfl ?_
      refine V_get C (v := .int (sh_held ((x_sh S0) (ix p1)))) (by decide +kernel) (36 + 2 * ix p1) 0 fk_RX4_84 (fg_X_sh_0 (inb_lt hf7)) rfl ?_
      refine V_pb C hn [(.iconst 1, 1)] (pc' := 43) (ls' := [(0, .ref (a0 0)), (1, .int p1), (2, .int p2), (3, .int p3), (4, .int p4), (5, .int p5), (6, .ref (a0 (36 + 2 * ix p1))), (7, .ref (a0 (36 + 2 * ix p2)))]) (st' := [.int (1 : Int32), .int (sh_held ((x_sh S0) (ix p1)))]) (decB_ok (by decide +kernel)) rfl rfl ?_
      refine V_ic_ne C (off := 16) (tgt := 59) (by decide +kernel) (by decide) h (fun _ h => ?_) (fun _ h => ?_)
      · refine V_pb C hn [(.aload 7, 2)] (pc' := 48) (ls' := [(0, .ref (a0 0)), (1, .int p1), (2, .int p2), (3, .int p3), (4, .int p4), (5, .int p5), (6, .ref (a0 (36 + 2 * ix p1))), (7, .ref (a0 (36 + 2 * ix p2)))]) (st' := [.ref (a0 (36 + 2 * ix p2))]) (decB_ok (by decide +kernel)) rfl rfl ?_
        refine V_get C (v := .int (sh_held ((x_sh S0) (ix p2)))) (by decide +kernel) (36 + 2 * ix p2) 0 fk_RX4_84 (fg_X_sh_0 (inb_lt hf8)) rfl ?_
        refine V_pb C hn [(.iconst 1, 1)] (pc' := 52) (ls' := [(0, .ref (a0 0)), (1, .int p1), (2, .int p2), (3, .int p3), (4, .int p4), (5, .int p5), (6, .ref (a0 (36 + 2 * ix p1))), (7, .ref (a0 (36 + 2 * ix p2)))]) (st' := [.int (1 : Int32), .int (sh_held ((x_sh S0) (ix p2)))]) (decB_ok (by decide +kernel)) rfl rfl ?_
        refine V_ic_ne C (off := 7) (tgt := 59) (by decide +kernel) (by decide) h (fun _ h => ?_) (fun _ h => ?_)
        · refine V_pb C hn [(.iconst 1, 1)] (pc' := 56) (ls' := [(0, .ref (a0 0)), (1, .int p1), (2, .int p2), (3, .int p3), (4, .int p4), (5, .int p5), (6, .ref (a0 (36 + 2 * ix p1))), (7, .ref (a0 (36 + 2 * ix p2)))]) (st' := [.int (1 : Int32)]) (decB_ok (by decide +kernel)) rfl rfl ?_
          refine V_goto C (off := 4) (tgt := 60) (by decide +kernel) (by decide) ?_
          refine V_sub (ls' := [(0, .ref (a0 0)), (3, .int p3), (4, .int p4), (5, .int p5), (6, .ref (a0 (36 + 2 * ix p1))), (7, .ref (a0 (36 + 2 * ix p2)))]) rfl ?_
          exact cfX4_copy_j60 C hn hf7 hf8 h
        · refine V_sub (ls' := [(0, .ref (a0 0)), (3, .int p3), (4, .int p4), (5, .int p5), (6, .ref (a0 (36 + 2 * ix p1))), (7, .ref (a0 (36 + 2 * ix p2)))]) rfl ?_
          exact cfX4_copy_j59 C hn hf7 hf8 h
      · refine V_sub (ls' := [(0, .ref (a0 0)), (3, .int p3), (4, .int p4), (5, .int p5), (6, .ref (a0 (36 + 2 * ix p1))), (7, .ref (a0 (36 + 2 * ix p2)))]) rfl ?_
        exact cfX4_copy_j59 C hn hf7 hf8 h
set_option maxRecDepth 100000 in
set_option maxHeartbeats 400000 in
theorem cfX4_element {l : Launch} {G : GG} (a0 : Nat → Nat) {p1 : Int32} {p2 : Int32} {S0 : XT} {out : Int64} (h : fX4_element p1 p2 S0 = some out) : Con l G 1 yX4_element cX4_element 3 (some .long) [.ref (a0 0), .int p1, .int p2] (wdX G a0 S0) (some (.long out)) (wdX G a0 S0) := by
  refine Con_of (by decide +kernel) (Nat.le_of_ble_eq_true rfl) (fun E hl hG hn C => ?_)
  subst hl
  subst hG
  have C : Ctx E cX4_element RX4 1 (some .long) := C
  show V E _ _ 0 [(0, .ref (a0 0)), (1, .int p1), (2, .int p2)] []
  unfold fX4_element at h
  refine V_pb C hn [(.iload_n 1, 1)] (pc' := 1) (ls' := [(0, .ref (a0 0)), (1, .int p1), (2, .int p2)]) (st' := [.int p1]) (decB_ok (by decide +kernel)) rfl rfl ?_
  obtain ⟨q1, h2, h⟩ := bnd h
  refine V_callSp C (As := [.int p1]) (rest := []) (by decide +kernel) ok_yX4_isShelf mk_RX4_50 (cfX4_isShelf (l := E.l) (G := E.G) h2) [] rfl rfl rfl rfl (Nat.le_of_ble_eq_true rfl) (Nat.le_of_ble_eq_true rfl) (Nat.le_of_ble_eq_true rfl) ?_
  show V E _ (wdX E.G a0 S0) 4 [(0, .ref (a0 0)), (1, .int p1), (2, .int p2)] [.int q1]
  refine V_if_eq C (off := 29) (tgt := 33) (by decide +kernel) (by decide) h (fun _ h => ?_) (fun _ h => ?_)
  · refine V_pb C hn [(.lconst 0, 1)] (pc' := 34) (ls' := [(0, .ref (a0 0)), (1, .int p1), (2, .int p2)]) (st' := [.long (0 : Int64)]) (decB_ok (by decide +kernel)) rfl rfl ?_
    have h := Option.some.inj h
    subst h
    exact V_lret C (by decide +kernel)
  · refine V_pb C hn [(.aload_n 0, 1)] (pc' := 8) (ls' := [(0, .ref (a0 0)), (1, .int p1), (2, .int p2)]) (st' := [.ref (a0 0)]) (decB_ok (by decide +kernel)) rfl rfl ?_
    refine V_get C (v := .ref (a0 3)) (by decide +kernel) 0 4 fk_RX4_24 rfl rfl ?_
    refine V_pb C hn [(.iload_n 1, 1)] (pc' := 12) (ls' := [(0, .ref (a0 0)), (1, .int p1), (2, .int p2)]) (st' := [.int p1, .ref (a0 3)]) (decB_ok (by decide +kernel)) rfl rfl ?_
    refine V_aald3 C (b := a0 (36 + 2 * ix p1)) (by decide +kernel) 3 3 rfl rfl h rfl (fun hf3 h => ?_)
    refine V_get C (v := .int (sh_held ((x_sh S0) (ix p1)))) (by decide +kernel) (36 + 2 * ix p1) 0 fk_RX4_84 (fg_X_sh_0 (inb_lt hf3)) rfl ?_
    refine V_pb C hn [(.iconst 1, 1)] (pc' := 17) (ls' := [(0, .ref (a0 0)), (1, .int p1), (2, .int p2)]) (st' := [.int (1 : Int32), .int (sh_held ((x_sh S0) (ix p1)))]) (decB_ok (by decide +kernel)) rfl rfl ?_
    refine V_ic_ne C (off := 16) (tgt := 33) (by decide +kernel) (by decide) h (fun _ h => ?_) (fun _ h => ?_)
    · refine V_pb C hn [(.aload_n 0, 1)] (pc' := 21) (ls' := [(0, .ref (a0 0)), (1, .int p1), (2, .int p2)]) (st' := [.ref (a0 0)]) (decB_ok (by decide +kernel)) rfl rfl ?_
      refine V_get C (v := .ref (a0 3)) (by decide +kernel) 0 4 fk_RX4_24 rfl rfl ?_
      refine V_pb C hn [(.iload_n 1, 1)] (pc' := 25) (ls' := [(0, .ref (a0 0)), (1, .int p1), (2, .int p2)]) (st' := [.int p1, .ref (a0 3)]) (decB_ok (by decide +kernel)) rfl rfl ?_
      refine V_aald3 C (b := a0 (36 + 2 * ix p1)) (by decide +kernel) 3 3 rfl rfl h rfl (fun hf4 h => ?_)
      refine V_pb C hn [(.iload_n 2, 1)] (pc' := 27) (ls' := [(0, .ref (a0 0)), (1, .int p1), (2, .int p2)]) (st' := [.int p2, .ref (a0 (36 + 2 * ix p1))]) (decB_ok (by decide +kernel)) rfl rfl ?_
      obtain ⟨q5, h6, h⟩ := bnd h
      refine V_callVp C (As := [.int p2]) (rest := []) (by decide +kernel) ok_yX2_hasPlace mk_RX4_69 (cfX2_hasPlace (l := E.l) (G := E.G) (fun j => a0 (36 + 2 * ix p1 + j)) h6) [(36 + 2 * ix p1), (36 + 2 * ix p1 + 1)] (q0 := 0) rfl (fc_X_sh (inb_lt hf4)) fn_X_sh rfl rfl rfl rfl (Nat.le_of_ble_eq_true rfl) (Nat.le_of_ble_eq_true rfl) (Nat.le_of_ble_eq_true rfl) ?_
      show V E _ (wdX E.G a0 S0) 30 [(0, .ref (a0 0)), (1, .int p1), (2, .int p2)] [.int q5]
      refine V_if_ne C (off := 5) (tgt := 35) (by decide +kernel) (by decide) h (fun _ h => ?_) (fun _ h => ?_)
      · refine V_pb C hn [(.lconst 0, 1)] (pc' := 34) (ls' := [(0, .ref (a0 0)), (1, .int p1), (2, .int p2)]) (st' := [.long (0 : Int64)]) (decB_ok (by decide +kernel)) rfl rfl ?_
        have h := Option.some.inj h
        subst h
        exact V_lret C (by decide +kernel)
      · refine V_pb C hn [(.aload_n 0, 1)] (pc' := 36) (ls' := [(0, .ref (a0 0)), (1, .int p1), (2, .int p2)]) (st' := [.ref (a0 0)]) (decB_ok (by decide +kernel)) rfl rfl ?_
        refine V_get C (v := .ref (a0 3)) (by decide +kernel) 0 4 fk_RX4_24 rfl rfl ?_
        refine V_pb C hn [(.iload_n 1, 1)] (pc' := 40) (ls' := [(0, .ref (a0 0)), (1, .int p1), (2, .int p2)]) (st' := [.int p1, .ref (a0 3)]) (decB_ok (by decide +kernel)) rfl rfl ?_
        refine V_aald3 C (b := a0 (36 + 2 * ix p1)) (by decide +kernel) 3 3 rfl rfl h rfl (fun hf7 h => ?_)
        refine V_get C (v := .ref (a0 (36 + 2 * ix p1 + 1))) (by decide +kernel) (36 + 2 * ix p1) 4 fk_RX4_72 (fg_X_sh_0 (inb_lt hf7)) rfl ?_
        refine V_pb C hn [(.iload_n 2, 1)] (pc' := 45) (ls' := [(0, .ref (a0 0)), (1, .int p1), (2, .int p2)]) (st' := [.int p2, .ref (a0 (36 + 2 * ix p1 + 1))]) (decB_ok (by decide +kernel)) rfl rfl ?_
        refine V_lald C (f := (sh_elements ((x_sh S0) (ix p1)))) (by decide +kernel) (36 + 2 * ix p1 + 1) (fg_X_sh_1 (inb_lt hf7)) h (fun h => ?_)
        have h := Option.some.inj h
        subst h
        exact V_lret C (by decide +kernel)
    · refine V_pb C hn [(.lconst 0, 1)] (pc' := 34) (ls' := [(0, .ref (a0 0)), (1, .int p1), (2, .int p2)]) (st' := [.long (0 : Int64)]) (decB_ok (by decide +kernel)) rfl rfl ?_
      have h := Option.some.inj h
      subst h
      exact V_lret C (by decide +kernel)
set_option maxRecDepth 100000 in
set_option maxHeartbeats 400000 in
theorem cfX4_holds {l : Launch} {G : GG} (a0 : Nat → Nat) {p1 : Int32} {S0 : XT} {out : Int32} (h : fX4_holds p1 S0 = some out) : Con l G 1 yX4_holds cX4_holds 3 (some .int) [.ref (a0 0), .int p1] (wdX G a0 S0) (some (.int out)) (wdX G a0 S0) := by
  refine Con_of (by decide +kernel) (Nat.le_of_ble_eq_true rfl) (fun E hl hG hn C => ?_)
  subst hl
  subst hG
  have C : Ctx E cX4_holds RX4 1 (some .int) := C
  show V E _ _ 0 [(0, .ref (a0 0)), (1, .int p1)] []
  unfold fX4_holds at h
  refine V_pb C hn [(.iload_n 1, 1)] (pc' := 1) (ls' := [(0, .ref (a0 0)), (1, .int p1)]) (st' := [.int p1]) (decB_ok (by decide +kernel)) rfl rfl ?_
  obtain ⟨q1, h2, h⟩ := bnd h
  refine V_callSp C (As := [.int p1]) (rest := []) (by decide +kernel) ok_yX4_isShelf mk_RX4_50 (cfX4_isShelf (l := E.l) (G := E.G) h2) [] rfl rfl rfl rfl (Nat.le_of_ble_eq_true rfl) (Nat.le_of_ble_eq_true rfl) (Nat.le_of_ble_eq_true rfl) ?_
  show V E _ (wdX E.G a0 S0) 4 [(0, .ref (a0 0)), (1, .int p1)] [.int q1]
  refine V_if_ne C (off := 5) (tgt := 9) (by decide +kernel) (by decide) h (fun _ h => ?_) (fun _ h => ?_)
  · refine V_pb C hn [(.iconst (-1), 1)] (pc' := 8) (ls' := [(0, .ref (a0 0)), (1, .int p1)]) (st' := [.int (cI (-1))]) (decB_ok (by decide +kernel)) rfl rfl ?_
    have h := Option.some.inj h
    subst h
    exact V_iret C (by decide +kernel) rfl
  · refine V_pb C hn [(.aload_n 0, 1)] (pc' := 10) (ls' := [(0, .ref (a0 0)), (1, .int p1)]) (st' := [.ref (a0 0)]) (decB_ok (by decide +kernel)) rfl rfl ?_
    refine V_get C (v := .ref (a0 3)) (by decide +kernel) 0 4 fk_RX4_24 rfl rfl ?_
    refine V_pb C hn [(.iload_n 1, 1)] (pc' := 14) (ls' := [(0, .ref (a0 0)), (1, .int p1)]) (st' := [.int p1, .ref (a0 3)]) (decB_ok (by decide +kernel)) rfl rfl ?_
    refine V_aald3 C (b := a0 (36 + 2 * ix p1)) (by decide +kernel) 3 3 rfl rfl h rfl (fun hf3 h => ?_)
    refine V_pb C hn [(.astore_n 2, 1), (.aload_n 2, 1)] (pc' := 17) (ls' := [(0, .ref (a0 0)), (1, .int p1), (2, .ref (a0 (36 + 2 * ix p1)))]) (st' := [.ref (a0 (36 + 2 * ix p1))]) (decB_ok (by decide +kernel)) rfl rfl ?_
    refine V_get C (v := .int (sh_held ((x_sh S0) (ix p1)))) (by decide +kernel) (36 + 2 * ix p1) 0 fk_RX4_84 (fg_X_sh_0 (inb_lt hf3)) rfl ?_
    refine V_lk C (dflt := 41) (ps := #[(1, 28), (2, 33)]) (len := 28) (by decide +kernel) (by decide) ?_
    refine Lk_at (off := 28) (v := (1 : Int32)) (tgt := 48) (by decide) (by decide) h (fun _ h => ?_) (fun _ h => ?_)
    · refine V_pb C hn [(.aload_n 2, 1)] (pc' := 49) (ls' := [(0, .ref (a0 0)), (1, .int p1), (2, .ref (a0 (36 + 2 * ix p1)))]) (st' := [.ref (a0 (36 + 2 * ix p1))]) (decB_ok (by decide +kernel)) rfl rfl ?_
      refine V_get C (v := .int (sh_sort ((x_sh S0) (ix p1)))) (by decide +kernel) (36 + 2 * ix p1) 1 fk_RX4_76 (fg_X_sh_0 (inb_lt hf3)) rfl ?_
      have h := Option.some.inj h
      subst h
      exact V_iret C (by decide +kernel) rfl
    refine Lk_at (off := 33) (v := (2 : Int32)) (tgt := 53) (by decide) (by decide) h (fun _ h => ?_) (fun _ h => ?_)
    · refine V_pb C hn [(.bipush 10, 2), (.aload_n 2, 1)] (pc' := 56) (ls' := [(0, .ref (a0 0)), (1, .int p1), (2, .ref (a0 (36 + 2 * ix p1)))]) (st' := [.ref (a0 (36 + 2 * ix p1)), .int (10 : Int32)]) (decB_ok (by decide +kernel)) rfl rfl ?_
      refine V_get C (v := .int (sh_number ((x_sh S0) (ix p1)))) (by decide +kernel) (36 + 2 * ix p1) 3 fk_RX4_97 (fg_X_sh_0 (inb_lt hf3)) rfl ?_
      refine V_pb C hn [(.iadd, 1)] (pc' := 60) (ls' := [(0, .ref (a0 0)), (1, .int p1), (2, .ref (a0 (36 + 2 * ix p1)))]) (st' := [.int ((10 : Int32) + (sh_number ((x_sh S0) (ix p1))))]) (decB_ok (by decide +kernel)) rfl rfl ?_
      have h := Option.some.inj h
      subst h
      exact V_iret C (by decide +kernel) rfl
    refine Lk_end (tgt := 61) (by decide) ?_
    refine V_pb C hn [(.iconst (-1), 1)] (pc' := 62) (ls' := [(0, .ref (a0 0)), (1, .int p1), (2, .ref (a0 (36 + 2 * ix p1)))]) (st' := [.int (cI (-1))]) (decB_ok (by decide +kernel)) rfl rfl ?_
    have h := Option.some.inj h
    subst h
    exact V_iret C (by decide +kernel) rfl
set_option maxRecDepth 100000 in
set_option maxHeartbeats 400000 in
theorem cfX4_isMote {l : Launch} {G : GG} (a0 : Nat → Nat) {p1 : Int32} {S0 : XT} {out : Int32} (h : fX4_isMote p1 S0 = some out) : Con l G 0 yX4_isMote cX4_isMote 2 (some .boolean) [.ref (a0 0), .int p1] (wdX G a0 S0) (some (.int out)) (wdX G a0 S0) := by
  refine Con_of (by decide +kernel) (Nat.le_of_ble_eq_true rfl) (fun E hl hG hn C => ?_)
  subst hl
  subst hG
  have C : Ctx E cX4_isMote RX4 0 (some .boolean) := C
  show V E _ _ 0 [(0, .ref (a0 0)), (1, .int p1)] []
  unfold fX4_isMote at h
  refine V_pb C hn [(.iload_n 1, 1)] (pc' := 1) (ls' := [(0, .ref (a0 0)), (1, .int p1)]) (st' := [.int p1]) (decB_ok (by decide +kernel)) rfl rfl ?_
  refine V_if_lt C (off := 18) (tgt := 19) (by decide +kernel) (by decide) h (fun _ h => ?_) (fun _ h => ?_)
  · refine V_pb C hn [(.iconst 0, 1)] (pc' := 20) (ls' := [(0, .ref (a0 0)), (1, .int p1)]) (st' := [.int (0 : Int32)]) (decB_ok (by decide +kernel)) rfl rfl ?_
    have h := Option.some.inj h
    subst h
    exact V_iret C (v := (0 : Int32)) (by decide +kernel) nb0
  · refine V_pb C hn [(.iload_n 1, 1), (.aload_n 0, 1)] (pc' := 6) (ls' := [(0, .ref (a0 0)), (1, .int p1)]) (st' := [.ref (a0 0), .int p1]) (decB_ok (by decide +kernel)) rfl rfl ?_
    refine V_get C (v := .ref (a0 4)) (by decide +kernel) 0 0 fk_RX4_12 rfl rfl ?_
    refine V_get C (v := .int (h_count (x_now S0))) (by decide +kernel) 4 1 fk_RX4_146 rfl rfl ?_
    refine V_ic_ge C (off := 7) (tgt := 19) (by decide +kernel) (by decide) h (fun _ h => ?_) (fun _ h => ?_)
    · refine V_pb C hn [(.iconst 0, 1)] (pc' := 20) (ls' := [(0, .ref (a0 0)), (1, .int p1)]) (st' := [.int (0 : Int32)]) (decB_ok (by decide +kernel)) rfl rfl ?_
      have h := Option.some.inj h
      subst h
      exact V_iret C (v := (0 : Int32)) (by decide +kernel) nb0
    · refine V_pb C hn [(.iconst 1, 1)] (pc' := 16) (ls' := [(0, .ref (a0 0)), (1, .int p1)]) (st' := [.int (1 : Int32)]) (decB_ok (by decide +kernel)) rfl rfl ?_
      refine V_goto C (off := 4) (tgt := 20) (by decide +kernel) (by decide) ?_
      have h := Option.some.inj h
      subst h
      exact V_iret C (v := (1 : Int32)) (by decide +kernel) nb1
set_option maxRecDepth 100000 in
set_option maxHeartbeats 400000 in
theorem cfX4_show_j20 {E : VE} (C : Ctx E cX4_show RX4 1 (some .int)) (hn : E.nL = 3) {a0 : Nat → Nat} {p1 : Int32} {p2 : Int32} {S0 : XT} {out : Int32 × XT} (h : fX4_show_j20 p1 p2 S0 = some out) : V E (QR E (some (.int out.1)) (wdX E.G a0 out.2)) (wdX E.G a0 S0) 20 [(0, .ref (a0 0))] [] := by
  unfold fX4_show_j20 at h
  refine V_pb C hn [(.aload_n 0, 1), (.bipush (-2), 2)] (pc' := 23) (ls' := [(0, .ref (a0 0))]) (st' := [.int (cI (-2)), .ref (a0 0)]) (decB_ok (by decide +kernel)) rfl rfl ?_
  obtain ⟨q3, h4, h⟩ := bnd h
  refine V_callV0 C (As := [.int (cI (-2))]) (rest := []) (by decide +kernel) ok_yX4_refuse mk_RX4_57 (cfX4_refuse (l := E.l) (G := E.G) a0 h4) (q0 := 0) rfl rfl rfl rfl rfl rfl (Nat.le_of_ble_eq_true rfl) (Nat.le_of_ble_eq_true rfl) (Nat.le_of_ble_eq_true rfl) ?_
  show V E _ (wdX E.G a0 q3.2) 26 [(0, .ref (a0 0))] [.int q3.1]
  have h := Option.some.inj h
  subst h
  exact V_iret C (by decide +kernel) rfl
set_option maxRecDepth 100000 in
set_option maxHeartbeats 400000 in
theorem cfX4_show_j27 {E : VE} (C : Ctx E cX4_show RX4 1 (some .int)) (hn : E.nL = 3) {a0 : Nat → Nat} {p1 : Int32} {p2 : Int32} {S0 : XT} {out : Int32 × XT} (h : fX4_show_j27 p1 p2 S0 = some out) : V E (QR E (some (.int out.1)) (wdX E.G a0 out.2)) (wdX E.G a0 S0) 27 [(0, .ref (a0 0)), (1, .int p1), (2, .int p2)] [] := by
  unfold fX4_show_j27 at h
  refine V_pb C hn [(.iload_n 2, 1), (.iconst (-1), 1)] (pc' := 29) (ls' := [(0, .ref (a0 0)), (1, .int p1), (2, .int p2)]) (st' := [.int (cI (-1)), .int p2]) (decB_ok (by decide +kernel)) rfl rfl ?_
  refine V_ic_ne C (off := 15) (tgt := 44) (by decide +kernel) (by decide) h (fun _ h => ?_) (fun _ h => ?_)
  · refine V_pb C hn [(.aload_n 0, 1)] (pc' := 33) (ls' := [(0, .ref (a0 0)), (1, .int p1), (2, .int p2)]) (st' := [.ref (a0 0)]) (decB_ok (by decide +kernel)) rfl rfl ?_
    refine V_get C (v := .ref (a0 3)) (by decide +kernel) 0 4 fk_RX4_24 rfl rfl ?_
    refine V_pb C hn [(.iload_n 1, 1)] (pc' := 37) (ls' := [(0, .ref (a0 0)), (1, .int p1), (2, .int p2)]) (st' := [.int p1, .ref (a0 3)]) (decB_ok (by decide +kernel)) rfl rfl ?_
    refine V_aald3 C (b := a0 (36 + 2 * ix p1)) (by decide +kernel) 3 3 rfl rfl h rfl (fun hf5 h => ?_)
    obtain ⟨q6, h7, h⟩ := bnd h
    obtain ⟨w8, e9, h⟩ := bnd h
    refine V_callV (ws' := wdX E.G a0 w8) C (As := []) (rest := []) (by decide +kernel) ok_yX2_clear mk_RX4_103 (cfX2_clear (l := E.l) (G := E.G) (fun j => a0 (36 + 2 * ix p1 + j)) h7) [(36 + 2 * ix p1), (36 + 2 * ix p1 + 1)] (q0 := 0) rfl (fc_X_sh (inb_lt hf5)) fn_X_sh rfl (by cases e9; exact (fs_X_sh (inb_lt hf5) _)) rfl rfl rfl rfl (Nat.le_of_ble_eq_true rfl) (Nat.le_of_ble_eq_true rfl) (Nat.le_of_ble_eq_true rfl) ?_
    show V E _ (wdX E.G a0 w8) 41 [(0, .ref (a0 0)), (1, .int p1), (2, .int p2)] []
    refine V_goto C (off := 13) (tgt := 54) (by decide +kernel) (by decide) ?_
    refine V_pb C hn [(.iconst 1, 1)] (pc' := 55) (ls' := [(0, .ref (a0 0)), (1, .int p1), (2, .int p2)]) (st' := [.int (1 : Int32)]) (decB_ok (by decide +kernel)) rfl rfl ?_
    have h := Option.some.inj h
    subst h
    exact V_iret C (by decide +kernel) rfl
  · refine V_pb C hn [(.aload_n 0, 1)] (pc' := 45) (ls' := [(0, .ref (a0 0)), (1, .int p1), (2, .int p2)]) (st' := [.ref (a0 0)]) (decB_ok (by decide +kernel)) rfl rfl ?_
    refine V_get C (v := .ref (a0 3)) (by decide +kernel) 0 4 fk_RX4_24 rfl rfl ?_
    refine V_pb C hn [(.iload_n 1, 1)] (pc' := 49) (ls' := [(0, .ref (a0 0)), (1, .int p1), (2, .int p2)]) (st' := [.int p1, .ref (a0 3)]) (decB_ok (by decide +kernel)) rfl rfl ?_
    refine V_aald3 C (b := a0 (36 + 2 * ix p1)) (by decide +kernel) 3 3 rfl rfl h rfl (fun hf10 h => ?_)
    refine V_pb C hn [(.iload_n 2, 1)] (pc' := 51) (ls' := [(0, .ref (a0 0)), (1, .int p1), (2, .int p2)]) (st' := [.int p2, .ref (a0 (36 + 2 * ix p1))]) (decB_ok (by decide +kernel)) rfl rfl ?_
    obtain ⟨q11, h12, h⟩ := bnd h
    obtain ⟨w13, e14, h⟩ := bnd h
    refine V_callV (ws' := wdX E.G a0 w13) C (As := [.int p2]) (rest := []) (by decide +kernel) ok_yX2_takeMote mk_RX4_106 (cfX2_takeMote (l := E.l) (G := E.G) (fun j => a0 (36 + 2 * ix p1 + j)) h12) [(36 + 2 * ix p1), (36 + 2 * ix p1 + 1)] (q0 := 0) rfl (fc_X_sh (inb_lt hf10)) fn_X_sh rfl (by cases e14; exact (fs_X_sh (inb_lt hf10) _)) rfl rfl rfl rfl (Nat.le_of_ble_eq_true rfl) (Nat.le_of_ble_eq_true rfl) (Nat.le_of_ble_eq_true rfl) ?_
    show V E _ (wdX E.G a0 w13) 54 [(0, .ref (a0 0)), (1, .int p1), (2, .int p2)] []
    refine V_pb C hn [(.iconst 1, 1)] (pc' := 55) (ls' := [(0, .ref (a0 0)), (1, .int p1), (2, .int p2)]) (st' := [.int (1 : Int32)]) (decB_ok (by decide +kernel)) rfl rfl ?_
    have h := Option.some.inj h
    subst h
    exact V_iret C (by decide +kernel) rfl
set_option maxRecDepth 100000 in
set_option maxHeartbeats 400000 in
theorem cfX4_show {l : Launch} {G : GG} (a0 : Nat → Nat) {p1 : Int32} {p2 : Int32} {S0 : XT} {out : Int32 × XT} (h : fX4_show p1 p2 S0 = some out) : Con l G 1 yX4_show cX4_show 3 (some .int) [.ref (a0 0), .int p1, .int p2] (wdX G a0 S0) (some (.int out.1)) (wdX G a0 out.2) := by
  refine Con_of (by decide +kernel) (Nat.le_of_ble_eq_true rfl) (fun E hl hG hn C => ?_)
  subst hl
  subst hG
  have C : Ctx E cX4_show RX4 1 (some .int) := C
  show V E _ _ 0 [(0, .ref (a0 0)), (1, .int p1), (2, .int p2)] []
  unfold fX4_show at h
  refine V_pb C hn [(.iload_n 1, 1)] (pc' := 1) (ls' := [(0, .ref (a0 0)), (1, .int p1), (2, .int p2)]) (st' := [.int p1]) (decB_ok (by decide +kernel)) rfl rfl ?_
  obtain ⟨q1, h2, h⟩ := bnd h
  refine V_callSp C (As := [.int p1]) (rest := []) (by decide +kernel) ok_yX4_isShelf mk_RX4_50 (cfX4_isShelf (l := E.l) (G := E.G) h2) [] rfl rfl rfl rfl (Nat.le_of_ble_eq_true rfl) (Nat.le_of_ble_eq_true rfl) (Nat.le_of_ble_eq_true rfl) ?_
  show V E _ (wdX E.G a0 S0) 4 [(0, .ref (a0 0)), (1, .int p1), (2, .int p2)] [.int q1]
  refine V_if_eq C (off := 16) (tgt := 20) (by decide +kernel) (by decide) h (fun _ h => ?_) (fun _ h => ?_)
  · refine V_sub (ls' := [(0, .ref (a0 0))]) rfl ?_
    exact cfX4_show_j20 C hn h
  · refine V_pb C hn [(.iload_n 2, 1), (.iconst (-1), 1)] (pc' := 9) (ls' := [(0, .ref (a0 0)), (1, .int p1), (2, .int p2)]) (st' := [.int (cI (-1)), .int p2]) (decB_ok (by decide +kernel)) rfl rfl ?_
    refine V_ic_eq C (off := 18) (tgt := 27) (by decide +kernel) (by decide) h (fun _ h => ?_) (fun _ h => ?_)
    · refine V_sub (ls' := [(0, .ref (a0 0)), (1, .int p1), (2, .int p2)]) rfl ?_
      exact cfX4_show_j27 C hn h
    · refine V_pb C hn [(.aload_n 0, 1), (.iload_n 2, 1)] (pc' := 14) (ls' := [(0, .ref (a0 0)), (1, .int p1), (2, .int p2)]) (st' := [.int p2, .ref (a0 0)]) (decB_ok (by decide +kernel)) rfl rfl ?_
      obtain ⟨q15, h16, h⟩ := bnd h
      refine V_callV0 C (As := [.int p2]) (rest := []) (by decide +kernel) ok_yX4_isMote mk_RX4_100 (cfX4_isMote (l := E.l) (G := E.G) a0 h16) (q0 := 0) rfl rfl rfl rfl rfl rfl (Nat.le_of_ble_eq_true rfl) (Nat.le_of_ble_eq_true rfl) (Nat.le_of_ble_eq_true rfl) ?_
      show V E _ (wdX E.G a0 S0) 17 [(0, .ref (a0 0)), (1, .int p1), (2, .int p2)] [.int q15]
      refine V_if_ne C (off := 10) (tgt := 27) (by decide +kernel) (by decide) h (fun _ h => ?_) (fun _ h => ?_)
      · refine V_sub (ls' := [(0, .ref (a0 0))]) rfl ?_
        exact cfX4_show_j20 C hn h
      · refine V_sub (ls' := [(0, .ref (a0 0)), (1, .int p1), (2, .int p2)]) rfl ?_
        exact cfX4_show_j27 C hn h
set_option maxRecDepth 100000 in
set_option maxHeartbeats 400000 in
theorem cfX4_isKind {l : Launch} {G : GG} {p0 : Int32} {out : Int32} (h : fX4_isKind p0 = some out) : Con l G 0 yX4_isKind cX4_isKind 1 (some .boolean) [.int p0] (([] : va_W)) (some (.int out)) (([] : va_W)) := by
  refine Con_of (by decide +kernel) (Nat.le_of_ble_eq_true rfl) (fun E hl hG hn C => ?_)
  subst hl
  subst hG
  have C : Ctx E cX4_isKind RX4 0 (some .boolean) := C
  show V E _ _ 0 [(0, .int p0)] []
  unfold fX4_isKind at h
  refine V_pb C hn [(.iload_n 0, 1)] (pc' := 1) (ls' := [(0, .int p0)]) (st' := [.int p0]) (decB_ok (by decide +kernel)) rfl rfl ?_
  refine V_if_lt C (off := 12) (tgt := 13) (by decide +kernel) (by decide) h (fun _ h => ?_) (fun _ h => ?_)
  · refine V_pb C hn [(.iconst 0, 1)] (pc' := 14) (ls' := [(0, .int p0)]) (st' := [.int (0 : Int32)]) (decB_ok (by decide +kernel)) rfl rfl ?_
    have h := Option.some.inj h
    subst h
    exact V_iret C (v := (0 : Int32)) (by decide +kernel) nb0
  · refine V_pb C hn [(.iload_n 0, 1), (.iconst 5, 1)] (pc' := 6) (ls' := [(0, .int p0)]) (st' := [.int (5 : Int32), .int p0]) (decB_ok (by decide +kernel)) rfl rfl ?_
    refine V_ic_gt C (off := 7) (tgt := 13) (by decide +kernel) (by decide) h (fun _ h => ?_) (fun _ h => ?_)
    · refine V_pb C hn [(.iconst 0, 1)] (pc' := 14) (ls' := [(0, .int p0)]) (st' := [.int (0 : Int32)]) (decB_ok (by decide +kernel)) rfl rfl ?_
      have h := Option.some.inj h
      subst h
      exact V_iret C (v := (0 : Int32)) (by decide +kernel) nb0
    · refine V_pb C hn [(.iconst 1, 1)] (pc' := 10) (ls' := [(0, .int p0)]) (st' := [.int (1 : Int32)]) (decB_ok (by decide +kernel)) rfl rfl ?_
      refine V_goto C (off := 4) (tgt := 14) (by decide +kernel) (by decide) ?_
      have h := Option.some.inj h
      subst h
      exact V_iret C (v := (1 : Int32)) (by decide +kernel) nb1
set_option maxRecDepth 100000 in
set_option maxHeartbeats 400000 in
theorem cfX4_isUnder_j19 {E : VE} (C : Ctx E cX4_isUnder RX4 0 (some .boolean)) (hn : E.nL = 2) {p0 : Int32} {p1 : Int32} {out : Int32} (h : fX4_isUnder_j19 p0 p1 = some out) : V E (QR E (some (.int out)) (([] : va_W))) (([] : va_W)) 19 [(0, .int p0), (1, .int p1)] [] := by
  unfold fX4_isUnder_j19 at h
  refine V_pb C hn [(.iload_n 1, 1), (.iconst 2, 1)] (pc' := 21) (ls' := [(0, .int p0), (1, .int p1)]) (st' := [.int (2 : Int32), .int p1]) (decB_ok (by decide +kernel)) rfl rfl ?_
  refine V_ic_ne C (off := 12) (tgt := 33) (by decide +kernel) (by decide) h (fun _ h => ?_) (fun _ h => ?_)
  · refine V_pb C hn [(.iload_n 0, 1), (.iconst 4, 1)] (pc' := 26) (ls' := [(0, .int p0), (1, .int p1)]) (st' := [.int (4 : Int32), .int p0]) (decB_ok (by decide +kernel)) rfl rfl ?_
    refine V_ic_ne C (off := 7) (tgt := 33) (by decide +kernel) (by decide) h (fun _ h => ?_) (fun _ h => ?_)
    · refine V_pb C hn [(.iconst 1, 1)] (pc' := 30) (ls' := [(0, .int p0), (1, .int p1)]) (st' := [.int (1 : Int32)]) (decB_ok (by decide +kernel)) rfl rfl ?_
      refine V_goto C (off := 4) (tgt := 34) (by decide +kernel) (by decide) ?_
      have h := Option.some.inj h
      subst h
      exact V_iret C (v := (1 : Int32)) (by decide +kernel) nb1
    · refine V_pb C hn [(.iconst 0, 1)] (pc' := 34) (ls' := [(0, .int p0), (1, .int p1)]) (st' := [.int (0 : Int32)]) (decB_ok (by decide +kernel)) rfl rfl ?_
      have h := Option.some.inj h
      subst h
      exact V_iret C (v := (0 : Int32)) (by decide +kernel) nb0
  · refine V_pb C hn [(.iconst 0, 1)] (pc' := 34) (ls' := [(0, .int p0), (1, .int p1)]) (st' := [.int (0 : Int32)]) (decB_ok (by decide +kernel)) rfl rfl ?_
    have h := Option.some.inj h
    subst h
    exact V_iret C (v := (0 : Int32)) (by decide +kernel) nb0
set_option maxRecDepth 100000 in
set_option maxHeartbeats 400000 in
theorem cfX4_isUnder {l : Launch} {G : GG} {p0 : Int32} {p1 : Int32} {out : Int32} (h : fX4_isUnder p0 p1 = some out) : Con l G 0 yX4_isUnder cX4_isUnder 2 (some .boolean) [.int p0, .int p1] (([] : va_W)) (some (.int out)) (([] : va_W)) := by
  refine Con_of (by decide +kernel) (Nat.le_of_ble_eq_true rfl) (fun E hl hG hn C => ?_)
  subst hl
  subst hG
  have C : Ctx E cX4_isUnder RX4 0 (some .boolean) := C
  show V E _ _ 0 [(0, .int p0), (1, .int p1)] []
  unfold fX4_isUnder at h
  refine V_pb C hn [(.iload_n 1, 1), (.iload_n 0, 1)] (pc' := 2) (ls' := [(0, .int p0), (1, .int p1)]) (st' := [.int p0, .int p1]) (decB_ok (by decide +kernel)) rfl rfl ?_
  refine V_ic_eq C (off := 27) (tgt := 29) (by decide +kernel) (by decide) h (fun _ h => ?_) (fun _ h => ?_)
  · refine V_pb C hn [(.iconst 1, 1)] (pc' := 30) (ls' := [(0, .int p0), (1, .int p1)]) (st' := [.int (1 : Int32)]) (decB_ok (by decide +kernel)) rfl rfl ?_
    refine V_goto C (off := 4) (tgt := 34) (by decide +kernel) (by decide) ?_
    have h := Option.some.inj h
    subst h
    exact V_iret C (v := (1 : Int32)) (by decide +kernel) nb1
  · refine V_pb C hn [(.iload_n 1, 1)] (pc' := 6) (ls' := [(0, .int p0), (1, .int p1)]) (st' := [.int p1]) (decB_ok (by decide +kernel)) rfl rfl ?_
    refine V_if_eq C (off := 23) (tgt := 29) (by decide +kernel) (by decide) h (fun _ h => ?_) (fun _ h => ?_)
    · refine V_pb C hn [(.iconst 1, 1)] (pc' := 30) (ls' := [(0, .int p0), (1, .int p1)]) (st' := [.int (1 : Int32)]) (decB_ok (by decide +kernel)) rfl rfl ?_
      refine V_goto C (off := 4) (tgt := 34) (by decide +kernel) (by decide) ?_
      have h := Option.some.inj h
      subst h
      exact V_iret C (v := (1 : Int32)) (by decide +kernel) nb1
    · refine V_pb C hn [(.iload_n 1, 1), (.iconst 1, 1)] (pc' := 11) (ls' := [(0, .int p0), (1, .int p1)]) (st' := [.int (1 : Int32), .int p1]) (decB_ok (by decide +kernel)) rfl rfl ?_
      refine V_ic_ne C (off := 8) (tgt := 19) (by decide +kernel) (by decide) h (fun _ h => ?_) (fun _ h => ?_)
      · refine V_pb C hn [(.iload_n 0, 1), (.iconst 3, 1)] (pc' := 16) (ls' := [(0, .int p0), (1, .int p1)]) (st' := [.int (3 : Int32), .int p0]) (decB_ok (by decide +kernel)) rfl rfl ?_
        refine V_ic_eq C (off := 13) (tgt := 29) (by decide +kernel) (by decide) h (fun _ h => ?_) (fun _ h => ?_)
        · refine V_pb C hn [(.iconst 1, 1)] (pc' := 30) (ls' := [(0, .int p0), (1, .int p1)]) (st' := [.int (1 : Int32)]) (decB_ok (by decide +kernel)) rfl rfl ?_
          refine V_goto C (off := 4) (tgt := 34) (by decide +kernel) (by decide) ?_
          have h := Option.some.inj h
          subst h
          exact V_iret C (v := (1 : Int32)) (by decide +kernel) nb1
        · refine V_sub (ls' := [(0, .int p0), (1, .int p1)]) rfl ?_
          exact cfX4_isUnder_j19 C hn h
      · refine V_sub (ls' := [(0, .int p0), (1, .int p1)]) rfl ?_
        exact cfX4_isUnder_j19 C hn h
set_option maxRecDepth 100000 in
set_option maxHeartbeats 400000 in
theorem cfX4_says_j14 {E : VE} (C : Ctx E cX4_says RX4 3 (some .int)) (hn : E.nL = 5) {a0 : Nat → Nat} {p1 : Int32} {p2 : Int32} {S0 : XT} {out : Int32 × XT} (h : fX4_says_j14 p1 p2 S0 = some out) : V E (QR E (some (.int out.1)) (wdX E.G a0 out.2)) (wdX E.G a0 S0) 14 [(0, .ref (a0 0))] [] := by
  unfold fX4_says_j14 at h
  refine V_pb C hn [(.aload_n 0, 1), (.bipush (-2), 2)] (pc' := 17) (ls' := [(0, .ref (a0 0))]) (st' := [.int (cI (-2)), .ref (a0 0)]) (decB_ok (by decide +kernel)) rfl rfl ?_
  obtain ⟨q3, h4, h⟩ := bnd h
  refine V_callV0 C (As := [.int (cI (-2))]) (rest := []) (by decide +kernel) ok_yX4_refuse mk_RX4_57 (cfX4_refuse (l := E.l) (G := E.G) a0 h4) (q0 := 0) rfl rfl rfl rfl rfl rfl (Nat.le_of_ble_eq_true rfl) (Nat.le_of_ble_eq_true rfl) (Nat.le_of_ble_eq_true rfl) ?_
  show V E _ (wdX E.G a0 q3.2) 20 [(0, .ref (a0 0))] [.int q3.1]
  have h := Option.some.inj h
  subst h
  exact V_iret C (by decide +kernel) rfl
set_option maxRecDepth 100000 in
set_option maxHeartbeats 400000 in
theorem cfX4_says_j62 {E : VE} (C : Ctx E cX4_says RX4 3 (some .int)) (hn : E.nL = 5) {a0 : Nat → Nat} {p1 : Int32} {p2 : Int32} {S0 : XT} {out : Int32 × XT} (h : fX4_says_j62 p1 p2 S0 = some out) : V E (QR E (some (.int out.1)) (wdX E.G a0 out.2)) (wdX E.G a0 S0) 62 [(0, .ref (a0 0))] [] := by
  unfold fX4_says_j62 at h
  refine V_pb C hn [(.aload_n 0, 1), (.bipush (-4), 2)] (pc' := 65) (ls' := [(0, .ref (a0 0))]) (st' := [.int (cI (-4)), .ref (a0 0)]) (decB_ok (by decide +kernel)) rfl rfl ?_
  obtain ⟨q12, h13, h⟩ := bnd h
  refine V_callV0 C (As := [.int (cI (-4))]) (rest := []) (by decide +kernel) ok_yX4_refuse mk_RX4_57 (cfX4_refuse (l := E.l) (G := E.G) a0 h13) (q0 := 0) rfl rfl rfl rfl rfl rfl (Nat.le_of_ble_eq_true rfl) (Nat.le_of_ble_eq_true rfl) (Nat.le_of_ble_eq_true rfl) ?_
  show V E _ (wdX E.G a0 q12.2) 68 [(0, .ref (a0 0))] [.int q12.1]
  have h := Option.some.inj h
  subst h
  exact V_iret C (by decide +kernel) rfl
set_option maxRecDepth 100000 in
set_option maxHeartbeats 400000 in
theorem cfX4_says {l : Launch} {G : GG} (a0 : Nat → Nat) {p1 : Int32} {p2 : Int32} {S0 : XT} {out : Int32 × XT} (h : fX4_says p1 p2 S0 = some out) : Con l G 3 yX4_says cX4_says 5 (some .int) [.ref (a0 0), .int p1, .int p2] (wdX G a0 S0) (some (.int out.1)) (wdX G a0 out.2) := by
  refine Con_of (by decide +kernel) (Nat.le_of_ble_eq_true rfl) (fun E hl hG hn C => ?_)
  subst hl
  subst hG
  have C : Ctx E cX4_says RX4 3 (some .int) := C
  show V E _ _ 0 [(0, .ref (a0 0)), (1, .int p1), (2, .int p2)] []
  unfold fX4_says at h
  refine V_pb C hn [(.iload_n 1, 1)] (pc' := 1) (ls' := [(0, .ref (a0 0)), (1, .int p1), (2, .int p2)]) (st' := [.int p1]) (decB_ok (by decide +kernel)) rfl rfl ?_
  obtain ⟨q1, h2, h⟩ := bnd h
  refine V_callSp C (As := [.int p1]) (rest := []) (by decide +kernel) ok_yX4_isShelf mk_RX4_50 (cfX4_isShelf (l := E.l) (G := E.G) h2) [] rfl rfl rfl rfl (Nat.le_of_ble_eq_true rfl) (Nat.le_of_ble_eq_true rfl) (Nat.le_of_ble_eq_true rfl) ?_
  show V E _ (wdX E.G a0 S0) 4 [(0, .ref (a0 0)), (1, .int p1), (2, .int p2)] [.int q1]
  refine V_if_eq C (off := 10) (tgt := 14) (by decide +kernel) (by decide) h (fun _ h => ?_) (fun _ h => ?_)
  · refine V_sub (ls' := [(0, .ref (a0 0))]) rfl ?_
    exact cfX4_says_j14 C hn h
  · refine V_pb C hn [(.iload_n 2, 1)] (pc' := 8) (ls' := [(0, .ref (a0 0)), (1, .int p1), (2, .int p2)]) (st' := [.int p2]) (decB_ok (by decide +kernel)) rfl rfl ?_
    obtain ⟨q5, h6, h⟩ := bnd h
    refine V_callSp C (As := [.int p2]) (rest := []) (by decide +kernel) ok_yX4_isKind mk_RX4_110 (cfX4_isKind (l := E.l) (G := E.G) h6) [] rfl rfl rfl rfl (Nat.le_of_ble_eq_true rfl) (Nat.le_of_ble_eq_true rfl) (Nat.le_of_ble_eq_true rfl) ?_
    show V E _ (wdX E.G a0 S0) 11 [(0, .ref (a0 0)), (1, .int p1), (2, .int p2)] [.int q5]
    refine V_if_ne C (off := 10) (tgt := 21) (by decide +kernel) (by decide) h (fun _ h => ?_) (fun _ h => ?_)
    · refine V_sub (ls' := [(0, .ref (a0 0))]) rfl ?_
      exact cfX4_says_j14 C hn h
    · refine V_pb C hn [(.aload_n 0, 1)] (pc' := 22) (ls' := [(0, .ref (a0 0)), (1, .int p1), (2, .int p2)]) (st' := [.ref (a0 0)]) (decB_ok (by decide +kernel)) rfl rfl ?_
      refine V_get C (v := .ref (a0 3)) (by decide +kernel) 0 4 fk_RX4_24 rfl rfl ?_
      refine V_pb C hn [(.iload_n 1, 1)] (pc' := 26) (ls' := [(0, .ref (a0 0)), (1, .int p1), (2, .int p2)]) (st' := [.int p1, .ref (a0 3)]) (decB_ok (by decide +kernel)) rfl rfl ?_
      refine V_aald3 C (b := a0 (36 + 2 * ix p1)) (by decide +kernel) 3 3 rfl rfl h rfl (fun hf7 h => ?_)
      refine V_pb C hn [(.astore_n 3, 1), (.aload_n 3, 1)] (pc' := 29) (ls' := [(0, .ref (a0 0)), (1, .int p1), (2, .int p2), (3, .ref (a0 (36 + 2 * ix p1)))]) (st' := [.ref (a0 (36 + 2 * ix p1))]) (decB_ok (by decide +kernel)) rfl rfl ?_
      refine V_get C (v := .int (sh_held ((x_sh S0) (ix p1)))) (by decide +kernel) (36 + 2 * ix p1) 0 fk_RX4_84 (fg_X_sh_0 (inb_lt hf7)) rfl ?_
      refine V_pb C hn [(.iconst 1, 1)] (pc' := 33) (ls' := [(0, .ref (a0 0)), (1, .int p1), (2, .int p2), (3, .ref (a0 (36 + 2 * ix p1)))]) (st' := [.int (1 : Int32), .int (sh_held ((x_sh S0) (ix p1)))]) (decB_ok (by decide +kernel)) rfl rfl ?_
      refine V_ic_ne C (off := 10) (tgt := 43) (by decide +kernel) (by decide) h (fun _ h => ?_) (fun _ h => ?_)
      · refine V_pb C hn [(.aload_n 0, 1), (.bipush (-3), 2)] (pc' := 39) (ls' := [(0, .ref (a0 0)), (1, .int p1), (2, .int p2), (3, .ref (a0 (36 + 2 * ix p1)))]) (st' := [.int (cI (-3)), .ref (a0 0)]) (decB_ok (by decide +kernel)) rfl rfl ?_
        obtain ⟨q8, h9, h⟩ := bnd h
        refine V_callV0 C (As := [.int (cI (-3))]) (rest := []) (by decide +kernel) ok_yX4_refuse mk_RX4_57 (cfX4_refuse (l := E.l) (G := E.G) a0 h9) (q0 := 0) rfl rfl rfl rfl rfl rfl (Nat.le_of_ble_eq_true rfl) (Nat.le_of_ble_eq_true rfl) (Nat.le_of_ble_eq_true rfl) ?_
        show V E _ (wdX E.G a0 q8.2) 42 [(0, .ref (a0 0)), (1, .int p1), (2, .int p2), (3, .ref (a0 (36 + 2 * ix p1)))] [.int q8.1]
        have h := Option.some.inj h
        subst h
        exact V_iret C (by decide +kernel) rfl
      · refine V_pb C hn [(.aload_n 3, 1)] (pc' := 44) (ls' := [(0, .ref (a0 0)), (1, .int p1), (2, .int p2), (3, .ref (a0 (36 + 2 * ix p1)))]) (st' := [.ref (a0 (36 + 2 * ix p1))]) (decB_ok (by decide +kernel)) rfl rfl ?_
        refine V_get C (v := .int (sh_held ((x_sh S0) (ix p1)))) (by decide +kernel) (36 + 2 * ix p1) 0 fk_RX4_84 (fg_X_sh_0 (inb_lt hf7)) rfl ?_
        refine V_pb C hn [(.iconst 2, 1)] (pc' := 48) (ls' := [(0, .ref (a0 0)), (1, .int p1), (2, .int p2), (3, .ref (a0 (36 + 2 * ix p1)))]) (st' := [.int (2 : Int32), .int (sh_held ((x_sh S0) (ix p1)))]) (decB_ok (by decide +kernel)) rfl rfl ?_
        refine V_ic_ne C (off := 14) (tgt := 62) (by decide +kernel) (by decide) h (fun _ h => ?_) (fun _ h => ?_)
        · refine V_pb C hn [(.aload_n 0, 1), (.aload_n 3, 1)] (pc' := 53) (ls' := [(0, .ref (a0 0)), (1, .int p1), (2, .int p2), (3, .ref (a0 (36 + 2 * ix p1)))]) (st' := [.ref (a0 (36 + 2 * ix p1)), .ref (a0 0)]) (decB_ok (by decide +kernel)) rfl rfl ?_
          refine V_get C (v := .int (sh_number ((x_sh S0) (ix p1)))) (by decide +kernel) (36 + 2 * ix p1) 3 fk_RX4_97 (fg_X_sh_0 (inb_lt hf7)) rfl ?_
          obtain ⟨q10, h11, h⟩ := bnd h
          refine V_callV0 C (As := [.int (sh_number ((x_sh S0) (ix p1)))]) (rest := []) (by decide +kernel) ok_yX4_isMote mk_RX4_100 (cfX4_isMote (l := E.l) (G := E.G) a0 h11) (q0 := 0) rfl rfl rfl rfl rfl rfl (Nat.le_of_ble_eq_true rfl) (Nat.le_of_ble_eq_true rfl) (Nat.le_of_ble_eq_true rfl) ?_
          show V E _ (wdX E.G a0 S0) 59 [(0, .ref (a0 0)), (1, .int p1), (2, .int p2), (3, .ref (a0 (36 + 2 * ix p1)))] [.int q10]
          refine V_if_ne C (off := 10) (tgt := 69) (by decide +kernel) (by decide) h (fun _ h => ?_) (fun _ h => ?_)
          · refine V_sub (ls' := [(0, .ref (a0 0))]) rfl ?_
            exact cfX4_says_j62 C hn h
          · refine V_pb C hn [(.aload_n 0, 1)] (pc' := 70) (ls' := [(0, .ref (a0 0)), (1, .int p1), (2, .int p2), (3, .ref (a0 (36 + 2 * ix p1)))]) (st' := [.ref (a0 0)]) (decB_ok (by decide +kernel)) rfl rfl ?_
            refine V_get C (v := .ref (a0 4)) (by decide +kernel) 0 0 fk_RX4_12 rfl rfl ?_
            refine V_get C (v := .ref (a0 5)) (by decide +kernel) 4 2 fk_RX4_113 rfl rfl ?_
            refine V_pb C hn [(.aload_n 3, 1)] (pc' := 77) (ls' := [(0, .ref (a0 0)), (1, .int p1), (2, .int p2), (3, .ref (a0 (36 + 2 * ix p1)))]) (st' := [.ref (a0 (36 + 2 * ix p1)), .ref (a0 5)]) (decB_ok (by decide +kernel)) rfl rfl ?_
            refine V_get C (v := .int (sh_number ((x_sh S0) (ix p1)))) (by decide +kernel) (36 + 2 * ix p1) 3 fk_RX4_97 (fg_X_sh_0 (inb_lt hf7)) rfl ?_
            refine V_iald C (f := (h_kindOf (x_now S0))) (by decide +kernel) 5 rfl h (fun h => ?_)
            refine V_pb C hn [(.istore 4, 2), (.iload 4, 2), (.iload_n 2, 1)] (pc' := 86) (ls' := [(0, .ref (a0 0)), (1, .int p1), (2, .int p2), (3, .ref (a0 (36 + 2 * ix p1))), (4, .int ((h_kindOf (x_now S0)) (ix (sh_number ((x_sh S0) (ix p1))))))]) (st' := [.int p2, .int ((h_kindOf (x_now S0)) (ix (sh_number ((x_sh S0) (ix p1)))))]) (decB_ok (by decide +kernel)) rfl rfl ?_
            obtain ⟨q14, h15, h⟩ := bnd h
            refine V_callSp C (As := [.int ((h_kindOf (x_now S0)) (ix (sh_number ((x_sh S0) (ix p1))))), .int p2]) (rest := []) (by decide +kernel) ok_yX4_isUnder mk_RX4_116 (cfX4_isUnder (l := E.l) (G := E.G) h15) [] rfl rfl rfl rfl (Nat.le_of_ble_eq_true rfl) (Nat.le_of_ble_eq_true rfl) (Nat.le_of_ble_eq_true rfl) ?_
            show V E _ (wdX E.G a0 S0) 89 [(0, .ref (a0 0)), (1, .int p1), (2, .int p2), (3, .ref (a0 (36 + 2 * ix p1))), (4, .int ((h_kindOf (x_now S0)) (ix (sh_number ((x_sh S0) (ix p1))))))] [.int q14]
            refine V_if_ne C (off := 10) (tgt := 99) (by decide +kernel) (by decide) h (fun _ h => ?_) (fun _ h => ?_)
            · refine V_pb C hn [(.aload_n 0, 1), (.bipush (-3), 2)] (pc' := 95) (ls' := [(0, .ref (a0 0)), (1, .int p1), (2, .int p2), (3, .ref (a0 (36 + 2 * ix p1))), (4, .int ((h_kindOf (x_now S0)) (ix (sh_number ((x_sh S0) (ix p1))))))]) (st' := [.int (cI (-3)), .ref (a0 0)]) (decB_ok (by decide +kernel)) rfl rfl ?_
              obtain ⟨q16, h17, h⟩ := bnd h
              refine V_callV0 C (As := [.int (cI (-3))]) (rest := []) (by decide +kernel) ok_yX4_refuse mk_RX4_57 (cfX4_refuse (l := E.l) (G := E.G) a0 h17) (q0 := 0) rfl rfl rfl rfl rfl rfl (Nat.le_of_ble_eq_true rfl) (Nat.le_of_ble_eq_true rfl) (Nat.le_of_ble_eq_true rfl) ?_
              show V E _ (wdX E.G a0 q16.2) 98 [(0, .ref (a0 0)), (1, .int p1), (2, .int p2), (3, .ref (a0 (36 + 2 * ix p1))), (4, .int ((h_kindOf (x_now S0)) (ix (sh_number ((x_sh S0) (ix p1))))))] [.int q16.1]
              have h := Option.some.inj h
              subst h
              exact V_iret C (by decide +kernel) rfl
            · refine V_pb C hn [(.iload_n 2, 1)] (pc' := 100) (ls' := [(0, .ref (a0 0)), (1, .int p1), (2, .int p2), (3, .ref (a0 (36 + 2 * ix p1))), (4, .int ((h_kindOf (x_now S0)) (ix (sh_number ((x_sh S0) (ix p1))))))]) (st' := [.int p2]) (decB_ok (by decide +kernel)) rfl rfl ?_
              refine V_if_ne C (off := 18) (tgt := 118) (by decide +kernel) (by decide) h (fun _ h => ?_) (fun _ h => ?_)
              · refine V_pb C hn [(.aload_n 0, 1)] (pc' := 104) (ls' := [(0, .ref (a0 0)), (1, .int p1), (2, .int p2), (3, .ref (a0 (36 + 2 * ix p1))), (4, .int ((h_kindOf (x_now S0)) (ix (sh_number ((x_sh S0) (ix p1))))))]) (st' := [.ref (a0 0)]) (decB_ok (by decide +kernel)) rfl rfl ?_
                refine V_get C (v := .ref (a0 4)) (by decide +kernel) 0 0 fk_RX4_12 rfl rfl ?_
                refine V_get C (v := .ref (a0 6)) (by decide +kernel) 4 3 fk_RX4_119 rfl rfl ?_
                refine V_pb C hn [(.aload_n 3, 1)] (pc' := 111) (ls' := [(0, .ref (a0 0)), (1, .int p1), (2, .int p2), (3, .ref (a0 (36 + 2 * ix p1))), (4, .int ((h_kindOf (x_now S0)) (ix (sh_number ((x_sh S0) (ix p1))))))]) (st' := [.ref (a0 (36 + 2 * ix p1)), .ref (a0 6)]) (decB_ok (by decide +kernel)) rfl rfl ?_
                refine V_get C (v := .int (sh_number ((x_sh S0) (ix p1)))) (by decide +kernel) (36 + 2 * ix p1) 3 fk_RX4_97 (fg_X_sh_0 (inb_lt hf7)) rfl ?_
                refine V_iald C (f := (h_weightOf (x_now S0))) (by decide +kernel) 6 rfl h (fun h => ?_)
                refine V_goto C (off := 24) (tgt := 139) (by decide +kernel) (by decide) ?_
                have h := Option.some.inj h
                subst h
                exact V_iret C (by decide +kernel) rfl
              · refine V_pb C hn [(.aload_n 0, 1)] (pc' := 119) (ls' := [(0, .ref (a0 0)), (1, .int p1), (2, .int p2), (3, .ref (a0 (36 + 2 * ix p1))), (4, .int ((h_kindOf (x_now S0)) (ix (sh_number ((x_sh S0) (ix p1))))))]) (st' := [.ref (a0 0)]) (decB_ok (by decide +kernel)) rfl rfl ?_
                refine V_get C (v := .ref (a0 4)) (by decide +kernel) 0 0 fk_RX4_12 rfl rfl ?_
                refine V_pb C hn [(.iload 4, 2), (.aload_n 0, 1)] (pc' := 125) (ls' := [(0, .ref (a0 0)), (1, .int p1), (2, .int p2), (3, .ref (a0 (36 + 2 * ix p1))), (4, .int ((h_kindOf (x_now S0)) (ix (sh_number ((x_sh S0) (ix p1))))))]) (st' := [.ref (a0 0), .int ((h_kindOf (x_now S0)) (ix (sh_number ((x_sh S0) (ix p1))))), .ref (a0 4)]) (decB_ok (by decide +kernel)) rfl rfl ?_
                refine V_get C (v := .ref (a0 4)) (by decide +kernel) 0 0 fk_RX4_12 rfl rfl ?_
                refine V_get C (v := .ref (a0 7)) (by decide +kernel) 4 4 fk_RX4_122 rfl rfl ?_
                refine V_pb C hn [(.aload_n 3, 1)] (pc' := 132) (ls' := [(0, .ref (a0 0)), (1, .int p1), (2, .int p2), (3, .ref (a0 (36 + 2 * ix p1))), (4, .int ((h_kindOf (x_now S0)) (ix (sh_number ((x_sh S0) (ix p1))))))]) (st' := [.ref (a0 (36 + 2 * ix p1)), .ref (a0 7), .int ((h_kindOf (x_now S0)) (ix (sh_number ((x_sh S0) (ix p1))))), .ref (a0 4)]) (decB_ok (by decide +kernel)) rfl rfl ?_
                refine V_get C (v := .int (sh_number ((x_sh S0) (ix p1)))) (by decide +kernel) (36 + 2 * ix p1) 3 fk_RX4_97 (fg_X_sh_0 (inb_lt hf7)) rfl ?_
                refine V_iald C (f := (h_cellOf (x_now S0))) (by decide +kernel) 7 rfl h (fun h => ?_)
                obtain ⟨q18, h19, h⟩ := bnd h
                refine V_callVp C (As := [.int ((h_kindOf (x_now S0)) (ix (sh_number ((x_sh S0) (ix p1))))), .int ((h_cellOf (x_now S0)) (ix (sh_number ((x_sh S0) (ix p1)))))]) (rest := []) (by decide +kernel) ok_yX1_next mk_RX4_125 (cfX1_next (l := E.l) (G := E.G) (fun j => a0 (4 + j)) h19) [4, 5, 6, 7] (q0 := 0) rfl rfl rfl rfl rfl rfl rfl (Nat.le_of_ble_eq_true rfl) (Nat.le_of_ble_eq_true rfl) (Nat.le_of_ble_eq_true rfl) ?_
                show V E _ (wdX E.G a0 S0) 139 [(0, .ref (a0 0)), (1, .int p1), (2, .int p2), (3, .ref (a0 (36 + 2 * ix p1))), (4, .int ((h_kindOf (x_now S0)) (ix (sh_number ((x_sh S0) (ix p1))))))] [.int q18]
                have h := Option.some.inj h
                subst h
                exact V_iret C (by decide +kernel) rfl
        · refine V_sub (ls' := [(0, .ref (a0 0))]) rfl ?_
          exact cfX4_says_j62 C hn h
set_option maxRecDepth 100000 in
set_option maxHeartbeats 400000 in
theorem cfX4_side {l : Launch} {G : GG} (a0 : Nat → Nat) {p1 : Int32} {S0 : XT} {out : Int32 × XT} (h : fX4_side p1 S0 = some out) : Con l G 1 yX4_side cX4_side 3 (some .int) [.ref (a0 0), .int p1] (wdX G a0 S0) (some (.int out.1)) (wdX G a0 out.2) := by
  refine Con_of (by decide +kernel) (Nat.le_of_ble_eq_true rfl) (fun E hl hG hn C => ?_)
  subst hl
  subst hG
  have C : Ctx E cX4_side RX4 1 (some .int) := C
  show V E _ _ 0 [(0, .ref (a0 0)), (1, .int p1)] []
  unfold fX4_side at h
  refine V_pb C hn [(.aload_n 0, 1)] (pc' := 1) (ls' := [(0, .ref (a0 0)), (1, .int p1)]) (st' := [.ref (a0 0)]) (decB_ok (by decide +kernel)) rfl rfl ?_
  refine V_get C (v := .ref (a0 4)) (by decide +kernel) 0 0 fk_RX4_12 rfl rfl ?_
  refine V_pb C hn [(.iload_n 1, 1)] (pc' := 5) (ls' := [(0, .ref (a0 0)), (1, .int p1)]) (st' := [.int p1, .ref (a0 4)]) (decB_ok (by decide +kernel)) rfl rfl ?_
  obtain ⟨q1, h2, h⟩ := bnd h
  refine V_callVp C (As := [.int p1]) (rest := []) (by decide +kernel) ok_yX1_maySide mk_RX4_129 (cfX1_maySide (l := E.l) (G := E.G) (fun j => a0 (4 + j)) h2) [4, 5, 6, 7] (q0 := 0) rfl rfl rfl rfl rfl rfl rfl (Nat.le_of_ble_eq_true rfl) (Nat.le_of_ble_eq_true rfl) (Nat.le_of_ble_eq_true rfl) ?_
  show V E _ (wdX E.G a0 S0) 8 [(0, .ref (a0 0)), (1, .int p1)] [.int q1]
  refine V_if_ne C (off := 10) (tgt := 18) (by decide +kernel) (by decide) h (fun _ h => ?_) (fun _ h => ?_)
  · refine V_pb C hn [(.aload_n 0, 1), (.bipush (-2), 2)] (pc' := 14) (ls' := [(0, .ref (a0 0)), (1, .int p1)]) (st' := [.int (cI (-2)), .ref (a0 0)]) (decB_ok (by decide +kernel)) rfl rfl ?_
    obtain ⟨q3, h4, h⟩ := bnd h
    refine V_callV0 C (As := [.int (cI (-2))]) (rest := []) (by decide +kernel) ok_yX4_refuse mk_RX4_57 (cfX4_refuse (l := E.l) (G := E.G) a0 h4) (q0 := 0) rfl rfl rfl rfl rfl rfl (Nat.le_of_ble_eq_true rfl) (Nat.le_of_ble_eq_true rfl) (Nat.le_of_ble_eq_true rfl) ?_
    show V E _ (wdX E.G a0 q3.2) 17 [(0, .ref (a0 0)), (1, .int p1)] [.int q3.1]
    have h := Option.some.inj h
    subst h
    exact V_iret C (by decide +kernel) rfl
  · refine V_pb C hn [(.aload_n 0, 1)] (pc' := 19) (ls' := [(0, .ref (a0 0)), (1, .int p1)]) (st' := [.ref (a0 0)]) (decB_ok (by decide +kernel)) rfl rfl ?_
    refine V_get C (v := .ref (a0 4)) (by decide +kernel) 0 0 fk_RX4_12 rfl rfl ?_
    refine V_get C (v := .int (h_side (x_now S0))) (by decide +kernel) 4 0 fk_RX4_132 rfl rfl ?_
    refine V_pb C hn [(.istore_n 2, 1), (.aload_n 0, 1)] (pc' := 27) (ls' := [(0, .ref (a0 0)), (1, .int p1), (2, .int (h_side (x_now S0)))]) (st' := [.ref (a0 0)]) (decB_ok (by decide +kernel)) rfl rfl ?_
    refine V_get C (v := .ref (a0 4)) (by decide +kernel) 0 0 fk_RX4_12 rfl rfl ?_
    refine V_pb C hn [(.iload_n 1, 1)] (pc' := 31) (ls' := [(0, .ref (a0 0)), (1, .int p1), (2, .int (h_side (x_now S0)))]) (st' := [.int p1, .ref (a0 4)]) (decB_ok (by decide +kernel)) rfl rfl ?_
    refine V_put C (v := .int p1) (ws' := wdX E.G a0 (xs_now S0 (hs_side (x_now S0) p1))) (by decide +kernel) 4 0 pk_RX4_132 rfl rfl rfl (Nat.le_of_ble_eq_true rfl) rfl ?_
    refine V_pb C hn [(.iload_n 2, 1)] (pc' := 35) (ls' := [(0, .ref (a0 0)), (1, .int p1), (2, .int (h_side (x_now S0)))]) (st' := [.int (h_side (x_now S0))]) (decB_ok (by decide +kernel)) rfl rfl ?_
    have h := Option.some.inj h
    subst h
    exact V_iret C (by decide +kernel) rfl
set_option maxRecDepth 100000 in
set_option maxHeartbeats 400000 in
theorem cfX4_mote_j28 {E : VE} (C : Ctx E cX4_mote RX4 2 (some .int)) (hn : E.nL = 4) {a0 : Nat → Nat} {p1 : Int32} {p2 : Int32} {p3 : Int32} {S0 : XT} {out : Int32 × XT} (h : fX4_mote_j28 p1 p2 p3 S0 = some out) : V E (QR E (some (.int out.1)) (wdX E.G a0 out.2)) (wdX E.G a0 S0) 28 [(0, .ref (a0 0))] [] := by
  unfold fX4_mote_j28 at h
  refine V_pb C hn [(.aload_n 0, 1), (.bipush (-2), 2)] (pc' := 31) (ls' := [(0, .ref (a0 0))]) (st' := [.int (cI (-2)), .ref (a0 0)]) (decB_ok (by decide +kernel)) rfl rfl ?_
  obtain ⟨q3, h4, h⟩ := bnd h
  refine V_callV0 C (As := [.int (cI (-2))]) (rest := []) (by decide +kernel) ok_yX4_refuse mk_RX4_57 (cfX4_refuse (l := E.l) (G := E.G) a0 h4) (q0 := 0) rfl rfl rfl rfl rfl rfl (Nat.le_of_ble_eq_true rfl) (Nat.le_of_ble_eq_true rfl) (Nat.le_of_ble_eq_true rfl) ?_
  show V E _ (wdX E.G a0 q3.2) 34 [(0, .ref (a0 0))] [.int q3.1]
  have h := Option.some.inj h
  subst h
  exact V_iret C (by decide +kernel) rfl
set_option maxRecDepth 100000 in
set_option maxHeartbeats 400000 in
theorem cfX4_mote {l : Launch} {G : GG} (a0 : Nat → Nat) {p1 : Int32} {p2 : Int32} {p3 : Int32} {S0 : XT} {out : Int32 × XT} (h : fX4_mote p1 p2 p3 S0 = some out) : Con l G 2 yX4_mote cX4_mote 4 (some .int) [.ref (a0 0), .int p1, .int p2, .int p3] (wdX G a0 S0) (some (.int out.1)) (wdX G a0 out.2) := by
  refine Con_of (by decide +kernel) (Nat.le_of_ble_eq_true rfl) (fun E hl hG hn C => ?_)
  subst hl
  subst hG
  have C : Ctx E cX4_mote RX4 2 (some .int) := C
  show V E _ _ 0 [(0, .ref (a0 0)), (1, .int p1), (2, .int p2), (3, .int p3)] []
  unfold fX4_mote at h
  refine V_pb C hn [(.iload_n 1, 1)] (pc' := 1) (ls' := [(0, .ref (a0 0)), (1, .int p1), (2, .int p2), (3, .int p3)]) (st' := [.int p1]) (decB_ok (by decide +kernel)) rfl rfl ?_
  obtain ⟨q1, h2, h⟩ := bnd h
  refine V_callSp C (As := [.int p1]) (rest := []) (by decide +kernel) ok_yX4_isKind mk_RX4_110 (cfX4_isKind (l := E.l) (G := E.G) h2) [] rfl rfl rfl rfl (Nat.le_of_ble_eq_true rfl) (Nat.le_of_ble_eq_true rfl) (Nat.le_of_ble_eq_true rfl) ?_
  show V E _ (wdX E.G a0 S0) 4 [(0, .ref (a0 0)), (1, .int p1), (2, .int p2), (3, .int p3)] [.int q1]
  refine V_if_eq C (off := 24) (tgt := 28) (by decide +kernel) (by decide) h (fun _ h => ?_) (fun _ h => ?_)
  · refine V_sub (ls' := [(0, .ref (a0 0))]) rfl ?_
    exact cfX4_mote_j28 C hn h
  · refine V_pb C hn [(.iload_n 2, 1)] (pc' := 8) (ls' := [(0, .ref (a0 0)), (1, .int p1), (2, .int p2), (3, .int p3)]) (st' := [.int p2]) (decB_ok (by decide +kernel)) rfl rfl ?_
    refine V_if_lt C (off := 20) (tgt := 28) (by decide +kernel) (by decide) h (fun _ h => ?_) (fun _ h => ?_)
    · refine V_sub (ls' := [(0, .ref (a0 0))]) rfl ?_
      exact cfX4_mote_j28 C hn h
    · refine V_pb C hn [(.iload_n 2, 1), (.bipush 9, 2)] (pc' := 14) (ls' := [(0, .ref (a0 0)), (1, .int p1), (2, .int p2), (3, .int p3)]) (st' := [.int (9 : Int32), .int p2]) (decB_ok (by decide +kernel)) rfl rfl ?_
      refine V_ic_gt C (off := 14) (tgt := 28) (by decide +kernel) (by decide) h (fun _ h => ?_) (fun _ h => ?_)
      · refine V_sub (ls' := [(0, .ref (a0 0))]) rfl ?_
        exact cfX4_mote_j28 C hn h
      · refine V_pb C hn [(.aload_n 0, 1)] (pc' := 18) (ls' := [(0, .ref (a0 0)), (1, .int p1), (2, .int p2), (3, .int p3)]) (st' := [.ref (a0 0)]) (decB_ok (by decide +kernel)) rfl rfl ?_
        refine V_get C (v := .ref (a0 4)) (by decide +kernel) 0 0 fk_RX4_12 rfl rfl ?_
        refine V_pb C hn [(.iload_n 3, 1)] (pc' := 22) (ls' := [(0, .ref (a0 0)), (1, .int p1), (2, .int p2), (3, .int p3)]) (st' := [.int p3, .ref (a0 4)]) (decB_ok (by decide +kernel)) rfl rfl ?_
        obtain ⟨q5, h6, h⟩ := bnd h
        refine V_callVp C (As := [.int p3]) (rest := []) (by decide +kernel) ok_yX1_isCell mk_RX4_135 (cfX1_isCell (l := E.l) (G := E.G) (fun j => a0 (4 + j)) h6) [4, 5, 6, 7] (q0 := 0) rfl rfl rfl rfl rfl rfl rfl (Nat.le_of_ble_eq_true rfl) (Nat.le_of_ble_eq_true rfl) (Nat.le_of_ble_eq_true rfl) ?_
        show V E _ (wdX E.G a0 S0) 25 [(0, .ref (a0 0)), (1, .int p1), (2, .int p2), (3, .int p3)] [.int q5]
        refine V_if_ne C (off := 10) (tgt := 35) (by decide +kernel) (by decide) h (fun _ h => ?_) (fun _ h => ?_)
        · refine V_sub (ls' := [(0, .ref (a0 0))]) rfl ?_
          exact cfX4_mote_j28 C hn h
        · refine V_pb C hn [(.aload_n 0, 1)] (pc' := 36) (ls' := [(0, .ref (a0 0)), (1, .int p1), (2, .int p2), (3, .int p3)]) (st' := [.ref (a0 0)]) (decB_ok (by decide +kernel)) rfl rfl ?_
          refine V_get C (v := .ref (a0 4)) (by decide +kernel) 0 0 fk_RX4_12 rfl rfl ?_
          obtain ⟨q7, h8, h⟩ := bnd h
          refine V_callVp C (As := []) (rest := []) (by decide +kernel) ok_yX1_hasRoom mk_RX4_138 (cfX1_hasRoom (l := E.l) (G := E.G) (fun j => a0 (4 + j)) h8) [4, 5, 6, 7] (q0 := 0) rfl rfl rfl rfl rfl rfl rfl (Nat.le_of_ble_eq_true rfl) (Nat.le_of_ble_eq_true rfl) (Nat.le_of_ble_eq_true rfl) ?_
          show V E _ (wdX E.G a0 S0) 42 [(0, .ref (a0 0)), (1, .int p1), (2, .int p2), (3, .int p3)] [.int q7]
          refine V_if_ne C (off := 10) (tgt := 52) (by decide +kernel) (by decide) h (fun _ h => ?_) (fun _ h => ?_)
          · refine V_pb C hn [(.aload_n 0, 1), (.bipush (-6), 2)] (pc' := 48) (ls' := [(0, .ref (a0 0)), (1, .int p1), (2, .int p2), (3, .int p3)]) (st' := [.int (cI (-6)), .ref (a0 0)]) (decB_ok (by decide +kernel)) rfl rfl ?_
            obtain ⟨q9, h10, h⟩ := bnd h
            refine V_callV0 C (As := [.int (cI (-6))]) (rest := []) (by decide +kernel) ok_yX4_refuse mk_RX4_57 (cfX4_refuse (l := E.l) (G := E.G) a0 h10) (q0 := 0) rfl rfl rfl rfl rfl rfl (Nat.le_of_ble_eq_true rfl) (Nat.le_of_ble_eq_true rfl) (Nat.le_of_ble_eq_true rfl) ?_
            show V E _ (wdX E.G a0 q9.2) 51 [(0, .ref (a0 0)), (1, .int p1), (2, .int p2), (3, .int p3)] [.int q9.1]
            have h := Option.some.inj h
            subst h
            exact V_iret C (by decide +kernel) rfl
          · refine V_pb C hn [(.aload_n 0, 1)] (pc' := 53) (ls' := [(0, .ref (a0 0)), (1, .int p1), (2, .int p2), (3, .int p3)]) (st' := [.ref (a0 0)]) (decB_ok (by decide +kernel)) rfl rfl ?_
            refine V_get C (v := .ref (a0 4)) (by decide +kernel) 0 0 fk_RX4_12 rfl rfl ?_
            refine V_pb C hn [(.iload_n 1, 1), (.iload_n 2, 1), (.iload_n 3, 1)] (pc' := 59) (ls' := [(0, .ref (a0 0)), (1, .int p1), (2, .int p2), (3, .int p3)]) (st' := [.int p3, .int p2, .int p1, .ref (a0 4)]) (decB_ok (by decide +kernel)) rfl rfl ?_
            obtain ⟨q11, h12, h⟩ := bnd h
            refine V_callV (ws' := wdX E.G a0 (xs_now S0 q11)) C (As := [.int p1, .int p2, .int p3]) (rest := []) (by decide +kernel) ok_yX1_add mk_RX4_142 (cfX1_add (l := E.l) (G := E.G) (fun j => a0 (4 + j)) h12) [4, 5, 6, 7] (q0 := 0) rfl rfl rfl rfl rfl rfl rfl rfl rfl (Nat.le_of_ble_eq_true rfl) (Nat.le_of_ble_eq_true rfl) (Nat.le_of_ble_eq_true rfl) ?_
            show V E _ (wdX E.G a0 (xs_now S0 q11)) 62 [(0, .ref (a0 0)), (1, .int p1), (2, .int p2), (3, .int p3)] []
            refine V_pb C hn [(.aload_n 0, 1)] (pc' := 63) (ls' := [(0, .ref (a0 0)), (1, .int p1), (2, .int p2), (3, .int p3)]) (st' := [.ref (a0 0)]) (decB_ok (by decide +kernel)) rfl rfl ?_
            refine V_get C (v := .ref (a0 4)) (by decide +kernel) 0 0 fk_RX4_12 rfl rfl ?_
            refine V_get C (v := .int (h_count q11)) (by decide +kernel) 4 1 fk_RX4_146 rfl rfl ?_
            refine V_pb C hn [(.iconst 1, 1), (.isub, 1)] (pc' := 71) (ls' := [(0, .ref (a0 0)), (1, .int p1), (2, .int p2), (3, .int p3)]) (st' := [.int ((h_count q11) - (1 : Int32))]) (decB_ok (by decide +kernel)) rfl rfl ?_
            have h := Option.some.inj h
            subst h
            exact V_iret C (by decide +kernel) rfl
set_option maxRecDepth 100000 in
set_option maxHeartbeats 400000 in
theorem cfX4_put_j19 {E : VE} (C : Ctx E cX4_put RX4 1 (some .int)) (hn : E.nL = 4) {a0 : Nat → Nat} {p1 : Int32} {p2 : Int32} {S0 : XT} {out : Int32 × XT} (h : fX4_put_j19 p1 p2 S0 = some out) : V E (QR E (some (.int out.1)) (wdX E.G a0 out.2)) (wdX E.G a0 S0) 19 [(0, .ref (a0 0))] [] := by
  unfold fX4_put_j19 at h
  refine V_pb C hn [(.aload_n 0, 1), (.bipush (-2), 2)] (pc' := 22) (ls' := [(0, .ref (a0 0))]) (st' := [.int (cI (-2)), .ref (a0 0)]) (decB_ok (by decide +kernel)) rfl rfl ?_
  obtain ⟨q3, h4, h⟩ := bnd h
  refine V_callV0 C (As := [.int (cI (-2))]) (rest := []) (by decide +kernel) ok_yX4_refuse mk_RX4_57 (cfX4_refuse (l := E.l) (G := E.G) a0 h4) (q0 := 0) rfl rfl rfl rfl rfl rfl (Nat.le_of_ble_eq_true rfl) (Nat.le_of_ble_eq_true rfl) (Nat.le_of_ble_eq_true rfl) ?_
  show V E _ (wdX E.G a0 q3.2) 25 [(0, .ref (a0 0))] [.int q3.1]
  have h := Option.some.inj h
  subst h
  exact V_iret C (by decide +kernel) rfl
set_option maxRecDepth 100000 in
set_option maxHeartbeats 400000 in
theorem cfX4_put {l : Launch} {G : GG} (a0 : Nat → Nat) {p1 : Int32} {p2 : Int32} {S0 : XT} {out : Int32 × XT} (h : fX4_put p1 p2 S0 = some out) : Con l G 1 yX4_put cX4_put 4 (some .int) [.ref (a0 0), .int p1, .int p2] (wdX G a0 S0) (some (.int out.1)) (wdX G a0 out.2) := by
  refine Con_of (by decide +kernel) (Nat.le_of_ble_eq_true rfl) (fun E hl hG hn C => ?_)
  subst hl
  subst hG
  have C : Ctx E cX4_put RX4 1 (some .int) := C
  show V E _ _ 0 [(0, .ref (a0 0)), (1, .int p1), (2, .int p2)] []
  unfold fX4_put at h
  refine V_pb C hn [(.aload_n 0, 1), (.iload_n 1, 1)] (pc' := 2) (ls' := [(0, .ref (a0 0)), (1, .int p1), (2, .int p2)]) (st' := [.int p1, .ref (a0 0)]) (decB_ok (by decide +kernel)) rfl rfl ?_
  obtain ⟨q1, h2, h⟩ := bnd h
  refine V_callV0 C (As := [.int p1]) (rest := []) (by decide +kernel) ok_yX4_isMote mk_RX4_100 (cfX4_isMote (l := E.l) (G := E.G) a0 h2) (q0 := 0) rfl rfl rfl rfl rfl rfl (Nat.le_of_ble_eq_true rfl) (Nat.le_of_ble_eq_true rfl) (Nat.le_of_ble_eq_true rfl) ?_
  show V E _ (wdX E.G a0 S0) 5 [(0, .ref (a0 0)), (1, .int p1), (2, .int p2)] [.int q1]
  refine V_if_eq C (off := 14) (tgt := 19) (by decide +kernel) (by decide) h (fun _ h => ?_) (fun _ h => ?_)
  · refine V_sub (ls' := [(0, .ref (a0 0))]) rfl ?_
    exact cfX4_put_j19 C hn h
  · refine V_pb C hn [(.aload_n 0, 1)] (pc' := 9) (ls' := [(0, .ref (a0 0)), (1, .int p1), (2, .int p2)]) (st' := [.ref (a0 0)]) (decB_ok (by decide +kernel)) rfl rfl ?_
    refine V_get C (v := .ref (a0 4)) (by decide +kernel) 0 0 fk_RX4_12 rfl rfl ?_
    refine V_pb C hn [(.iload_n 2, 1)] (pc' := 13) (ls' := [(0, .ref (a0 0)), (1, .int p1), (2, .int p2)]) (st' := [.int p2, .ref (a0 4)]) (decB_ok (by decide +kernel)) rfl rfl ?_
    obtain ⟨q5, h6, h⟩ := bnd h
    refine V_callVp C (As := [.int p2]) (rest := []) (by decide +kernel) ok_yX1_isCell mk_RX4_135 (cfX1_isCell (l := E.l) (G := E.G) (fun j => a0 (4 + j)) h6) [4, 5, 6, 7] (q0 := 0) rfl rfl rfl rfl rfl rfl rfl (Nat.le_of_ble_eq_true rfl) (Nat.le_of_ble_eq_true rfl) (Nat.le_of_ble_eq_true rfl) ?_
    show V E _ (wdX E.G a0 S0) 16 [(0, .ref (a0 0)), (1, .int p1), (2, .int p2)] [.int q5]
    refine V_if_ne C (off := 10) (tgt := 26) (by decide +kernel) (by decide) h (fun _ h => ?_) (fun _ h => ?_)
    · refine V_sub (ls' := [(0, .ref (a0 0))]) rfl ?_
      exact cfX4_put_j19 C hn h
    · refine V_pb C hn [(.aload_n 0, 1)] (pc' := 27) (ls' := [(0, .ref (a0 0)), (1, .int p1), (2, .int p2)]) (st' := [.ref (a0 0)]) (decB_ok (by decide +kernel)) rfl rfl ?_
      refine V_get C (v := .ref (a0 4)) (by decide +kernel) 0 0 fk_RX4_12 rfl rfl ?_
      refine V_get C (v := .ref (a0 7)) (by decide +kernel) 4 4 fk_RX4_122 rfl rfl ?_
      refine V_pb C hn [(.iload_n 1, 1)] (pc' := 34) (ls' := [(0, .ref (a0 0)), (1, .int p1), (2, .int p2)]) (st' := [.int p1, .ref (a0 7)]) (decB_ok (by decide +kernel)) rfl rfl ?_
      refine V_iald C (f := (h_cellOf (x_now S0))) (by decide +kernel) 7 rfl h (fun h => ?_)
      refine V_pb C hn [(.istore_n 3, 1), (.aload_n 0, 1)] (pc' := 37) (ls' := [(0, .ref (a0 0)), (1, .int p1), (2, .int p2), (3, .int ((h_cellOf (x_now S0)) (ix p1)))]) (st' := [.ref (a0 0)]) (decB_ok (by decide +kernel)) rfl rfl ?_
      refine V_get C (v := .ref (a0 4)) (by decide +kernel) 0 0 fk_RX4_12 rfl rfl ?_
      refine V_get C (v := .ref (a0 7)) (by decide +kernel) 4 4 fk_RX4_122 rfl rfl ?_
      refine V_pb C hn [(.iload_n 1, 1), (.iload_n 2, 1)] (pc' := 45) (ls' := [(0, .ref (a0 0)), (1, .int p1), (2, .int p2), (3, .int ((h_cellOf (x_now S0)) (ix p1)))]) (st' := [.int p2, .int p1, .ref (a0 7)]) (decB_ok (by decide +kernel)) rfl rfl ?_
      refine V_iast C (f := (h_cellOf (x_now S0))) (ws' := wdX E.G a0 (xs_now S0 (hs_cellOf (x_now S0) (upd (h_cellOf (x_now S0)) (ix p1) p2)))) (by decide +kernel) 7 rfl h rfl (fun h => ?_)
      refine V_pb C hn [(.iload_n 3, 1)] (pc' := 47) (ls' := [(0, .ref (a0 0)), (1, .int p1), (2, .int p2), (3, .int ((h_cellOf (x_now S0)) (ix p1)))]) (st' := [.int ((h_cellOf (x_now S0)) (ix p1))]) (decB_ok (by decide +kernel)) rfl rfl ?_
      have h := Option.some.inj h
      subst h
      exact V_iret C (by decide +kernel) rfl
set_option maxRecDepth 100000 in
set_option maxHeartbeats 400000 in
theorem cfX4_door_j9 {E : VE} (C : Ctx E cX4_door RX4 1 (some .int)) (hn : E.nL = 4) {a0 : Nat → Nat} {p1 : Int32} {p2 : Int32} {S0 : XT} {out : Int32 × XT} (h : fX4_door_j9 p1 p2 S0 = some out) : V E (QR E (some (.int out.1)) (wdX E.G a0 out.2)) (wdX E.G a0 S0) 9 [(0, .ref (a0 0))] [] := by
  unfold fX4_door_j9 at h
  refine V_pb C hn [(.aload_n 0, 1), (.bipush (-2), 2)] (pc' := 12) (ls' := [(0, .ref (a0 0))]) (st' := [.int (cI (-2)), .ref (a0 0)]) (decB_ok (by decide +kernel)) rfl rfl ?_
  obtain ⟨q1, h2, h⟩ := bnd h
  refine V_callV0 C (As := [.int (cI (-2))]) (rest := []) (by decide +kernel) ok_yX4_refuse mk_RX4_57 (cfX4_refuse (l := E.l) (G := E.G) a0 h2) (q0 := 0) rfl rfl rfl rfl rfl rfl (Nat.le_of_ble_eq_true rfl) (Nat.le_of_ble_eq_true rfl) (Nat.le_of_ble_eq_true rfl) ?_
  show V E _ (wdX E.G a0 q1.2) 15 [(0, .ref (a0 0))] [.int q1.1]
  have h := Option.some.inj h
  subst h
  exact V_iret C (by decide +kernel) rfl
set_option maxRecDepth 100000 in
set_option maxHeartbeats 400000 in
theorem cfX4_door {l : Launch} {G : GG} (a0 : Nat → Nat) {p1 : Int32} {p2 : Int32} {S0 : XT} {out : Int32 × XT} (h : fX4_door p1 p2 S0 = some out) : Con l G 1 yX4_door cX4_door 4 (some .int) [.ref (a0 0), .int p1, .int p2] (wdX G a0 S0) (some (.int out.1)) (wdX G a0 out.2) := by
  refine Con_of (by decide +kernel) (Nat.le_of_ble_eq_true rfl) (fun E hl hG hn C => ?_)
  subst hl
  subst hG
  have C : Ctx E cX4_door RX4 1 (some .int) := C
  show V E _ _ 0 [(0, .ref (a0 0)), (1, .int p1), (2, .int p2)] []
  unfold fX4_door at h
  refine V_pb C hn [(.iload_n 1, 1)] (pc' := 1) (ls' := [(0, .ref (a0 0)), (1, .int p1), (2, .int p2)]) (st' := [.int p1]) (decB_ok (by decide +kernel)) rfl rfl ?_
  refine V_if_lt C (off := 8) (tgt := 9) (by decide +kernel) (by decide) h (fun _ h => ?_) (fun _ h => ?_)
  · refine V_sub (ls' := [(0, .ref (a0 0))]) rfl ?_
    exact cfX4_door_j9 C hn h
  · refine V_pb C hn [(.iload_n 1, 1), (.iconst 4, 1)] (pc' := 6) (ls' := [(0, .ref (a0 0)), (1, .int p1), (2, .int p2)]) (st' := [.int (4 : Int32), .int p1]) (decB_ok (by decide +kernel)) rfl rfl ?_
    refine V_ic_lt C (off := 10) (tgt := 16) (by decide +kernel) (by decide) h (fun _ h => ?_) (fun _ h => ?_)
    · refine V_pb C hn [(.aload_n 0, 1)] (pc' := 17) (ls' := [(0, .ref (a0 0)), (1, .int p1), (2, .int p2)]) (st' := [.ref (a0 0)]) (decB_ok (by decide +kernel)) rfl rfl ?_
      refine V_get C (v := .ref (a0 4)) (by decide +kernel) 0 0 fk_RX4_12 rfl rfl ?_
      refine V_get C (v := .int (h_doors (x_now S0))) (by decide +kernel) 4 5 fk_RX4_149 rfl rfl ?_
      refine V_pb C hn [(.iload_n 1, 1), (.ishr, 1), (.iconst 1, 1), (.iand, 1), (.istore_n 3, 1), (.aload_n 0, 1)] (pc' := 29) (ls' := [(0, .ref (a0 0)), (1, .int p1), (2, .int p2), (3, .int ((jshr (h_doors (x_now S0)) p1) &&& (1 : Int32)))]) (st' := [.ref (a0 0)]) (decB_ok (by decide +kernel)) rfl rfl ?_
      refine V_get C (v := .ref (a0 4)) (by decide +kernel) 0 0 fk_RX4_12 rfl rfl ?_
      refine V_pb C hn [(.iload_n 1, 1), (.iload_n 2, 1)] (pc' := 34) (ls' := [(0, .ref (a0 0)), (1, .int p1), (2, .int p2), (3, .int ((jshr (h_doors (x_now S0)) p1) &&& (1 : Int32)))]) (st' := [.int p2, .int p1, .ref (a0 4)]) (decB_ok (by decide +kernel)) rfl rfl ?_
      obtain ⟨q3, h4, h⟩ := bnd h
      refine V_callV (ws' := wdX E.G a0 (xs_now S0 q3)) C (As := [.int p1, .int p2]) (rest := []) (by decide +kernel) ok_yX1_setDoor mk_RX4_152 (cfX1_setDoor (l := E.l) (G := E.G) (fun j => a0 (4 + j)) h4) [4, 5, 6, 7] (q0 := 0) rfl rfl rfl rfl rfl rfl rfl rfl rfl (Nat.le_of_ble_eq_true rfl) (Nat.le_of_ble_eq_true rfl) (Nat.le_of_ble_eq_true rfl) ?_
      show V E _ (wdX E.G a0 (xs_now S0 q3)) 37 [(0, .ref (a0 0)), (1, .int p1), (2, .int p2), (3, .int ((jshr (h_doors (x_now S0)) p1) &&& (1 : Int32)))] []
      refine V_pb C hn [(.iload_n 3, 1)] (pc' := 38) (ls' := [(0, .ref (a0 0)), (1, .int p1), (2, .int p2), (3, .int ((jshr (h_doors (x_now S0)) p1) &&& (1 : Int32)))]) (st' := [.int ((jshr (h_doors (x_now S0)) p1) &&& (1 : Int32))]) (decB_ok (by decide +kernel)) rfl rfl ?_
      have h := Option.some.inj h
      subst h
      exact V_iret C (by decide +kernel) rfl
    · refine V_sub (ls' := [(0, .ref (a0 0))]) rfl ?_
      exact cfX4_door_j9 C hn h
set_option maxRecDepth 100000 in
set_option maxHeartbeats 400000 in
theorem cfX4_tell {l : Launch} {G : GG} (a0 : Nat → Nat) {p1 : Int32} {p2 : Int32} {S0 : XT} {out : Int32 × XT} (h : fX4_tell p1 p2 S0 = some out) : Con l G 2 yX4_tell cX4_tell 4 (some .int) [.ref (a0 0), .int p1, .int p2] (wdX G a0 S0) (some (.int out.1)) (wdX G a0 out.2) := by
  refine Con_of (by decide +kernel) (Nat.le_of_ble_eq_true rfl) (fun E hl hG hn C => ?_)
  subst hl
  subst hG
  have C : Ctx E cX4_tell RX4 2 (some .int) := C
  show V E _ _ 0 [(0, .ref (a0 0)), (1, .int p1), (2, .int p2)] []
  unfold fX4_tell at h
  refine V_pb C hn [(.iload_n 1, 1), (.iload_n 2, 1)] (pc' := 2) (ls' := [(0, .ref (a0 0)), (1, .int p1), (2, .int p2)]) (st' := [.int p2, .int p1]) (decB_ok (by decide +kernel)) rfl rfl ?_
  obtain ⟨q1, h2, h⟩ := bnd h
  refine V_callSp C (As := [.int p1, .int p2]) (rest := []) (by decide +kernel) ok_yX1_mayTell mk_RX4_156 (cfX1_mayTell (l := E.l) (G := E.G) h2) [] rfl rfl rfl rfl (Nat.le_of_ble_eq_true rfl) (Nat.le_of_ble_eq_true rfl) (Nat.le_of_ble_eq_true rfl) ?_
  show V E _ (wdX E.G a0 S0) 5 [(0, .ref (a0 0)), (1, .int p1), (2, .int p2)] [.int q1]
  refine V_if_ne C (off := 10) (tgt := 15) (by decide +kernel) (by decide) h (fun _ h => ?_) (fun _ h => ?_)
  · refine V_pb C hn [(.aload_n 0, 1), (.bipush (-2), 2)] (pc' := 11) (ls' := [(0, .ref (a0 0)), (1, .int p1), (2, .int p2)]) (st' := [.int (cI (-2)), .ref (a0 0)]) (decB_ok (by decide +kernel)) rfl rfl ?_
    obtain ⟨q3, h4, h⟩ := bnd h
    refine V_callV0 C (As := [.int (cI (-2))]) (rest := []) (by decide +kernel) ok_yX4_refuse mk_RX4_57 (cfX4_refuse (l := E.l) (G := E.G) a0 h4) (q0 := 0) rfl rfl rfl rfl rfl rfl (Nat.le_of_ble_eq_true rfl) (Nat.le_of_ble_eq_true rfl) (Nat.le_of_ble_eq_true rfl) ?_
    show V E _ (wdX E.G a0 q3.2) 14 [(0, .ref (a0 0)), (1, .int p1), (2, .int p2)] [.int q3.1]
    have h := Option.some.inj h
    subst h
    exact V_iret C (by decide +kernel) rfl
  · refine V_pb C hn [(.aload_n 0, 1)] (pc' := 16) (ls' := [(0, .ref (a0 0)), (1, .int p1), (2, .int p2)]) (st' := [.ref (a0 0)]) (decB_ok (by decide +kernel)) rfl rfl ?_
    refine V_get C (v := .ref (a0 4)) (by decide +kernel) 0 0 fk_RX4_12 rfl rfl ?_
    refine V_pb C hn [(.iload_n 1, 1)] (pc' := 20) (ls' := [(0, .ref (a0 0)), (1, .int p1), (2, .int p2)]) (st' := [.int p1, .ref (a0 4)]) (decB_ok (by decide +kernel)) rfl rfl ?_
    obtain ⟨q5, h6, h⟩ := bnd h
    refine V_callVp C (As := [.int p1]) (rest := []) (by decide +kernel) ok_yX1_told mk_RX4_159 (cfX1_told (l := E.l) (G := E.G) (fun j => a0 (4 + j)) h6) [4, 5, 6, 7] (q0 := 0) rfl rfl rfl rfl rfl rfl rfl (Nat.le_of_ble_eq_true rfl) (Nat.le_of_ble_eq_true rfl) (Nat.le_of_ble_eq_true rfl) ?_
    show V E _ (wdX E.G a0 S0) 23 [(0, .ref (a0 0)), (1, .int p1), (2, .int p2)] [.int q5]
    refine V_pb C hn [(.istore_n 3, 1), (.aload_n 0, 1)] (pc' := 25) (ls' := [(0, .ref (a0 0)), (1, .int p1), (2, .int p2), (3, .int q5)]) (st' := [.ref (a0 0)]) (decB_ok (by decide +kernel)) rfl rfl ?_
    refine V_get C (v := .ref (a0 4)) (by decide +kernel) 0 0 fk_RX4_12 rfl rfl ?_
    refine V_pb C hn [(.iload_n 1, 1), (.iload_n 2, 1)] (pc' := 30) (ls' := [(0, .ref (a0 0)), (1, .int p1), (2, .int p2), (3, .int q5)]) (st' := [.int p2, .int p1, .ref (a0 4)]) (decB_ok (by decide +kernel)) rfl rfl ?_
    obtain ⟨q7, h8, h⟩ := bnd h
    refine V_callV (ws' := wdX E.G a0 (xs_now S0 q7)) C (As := [.int p1, .int p2]) (rest := []) (by decide +kernel) ok_yX1_becomes mk_RX4_162 (cfX1_becomes (l := E.l) (G := E.G) (fun j => a0 (4 + j)) h8) [4, 5, 6, 7] (q0 := 0) rfl rfl rfl rfl rfl rfl rfl rfl rfl (Nat.le_of_ble_eq_true rfl) (Nat.le_of_ble_eq_true rfl) (Nat.le_of_ble_eq_true rfl) ?_
    show V E _ (wdX E.G a0 (xs_now S0 q7)) 33 [(0, .ref (a0 0)), (1, .int p1), (2, .int p2), (3, .int q5)] []
    refine V_pb C hn [(.iload_n 3, 1)] (pc' := 34) (ls' := [(0, .ref (a0 0)), (1, .int p1), (2, .int p2), (3, .int q5)]) (st' := [.int q5]) (decB_ok (by decide +kernel)) rfl rfl ?_
    have h := Option.some.inj h
    subst h
    exact V_iret C (by decide +kernel) rfl
set_option maxRecDepth 100000 in
set_option maxHeartbeats 400000 in
theorem cfX4_feed_j11 {E : VE} (C : Ctx E cX4_feed RX4 1 (some .int)) (hn : E.nL = 2) {a0 : Nat → Nat} {p1 : Int32} {S0 : XT} {out : Int32 × XT} (h : fX4_feed_j11 p1 S0 = some out) : V E (QR E (some (.int out.1)) (wdX E.G a0 out.2)) (wdX E.G a0 S0) 11 [(0, .ref (a0 0))] [] := by
  unfold fX4_feed_j11 at h
  refine V_pb C hn [(.aload_n 0, 1), (.bipush (-2), 2)] (pc' := 14) (ls' := [(0, .ref (a0 0))]) (st' := [.int (cI (-2)), .ref (a0 0)]) (decB_ok (by decide +kernel)) rfl rfl ?_
  obtain ⟨q1, h2, h⟩ := bnd h
  refine V_callV0 C (As := [.int (cI (-2))]) (rest := []) (by decide +kernel) ok_yX4_refuse mk_RX4_57 (cfX4_refuse (l := E.l) (G := E.G) a0 h2) (q0 := 0) rfl rfl rfl rfl rfl rfl (Nat.le_of_ble_eq_true rfl) (Nat.le_of_ble_eq_true rfl) (Nat.le_of_ble_eq_true rfl) ?_
  show V E _ (wdX E.G a0 q1.2) 17 [(0, .ref (a0 0))] [.int q1.1]
  have h := Option.some.inj h
  subst h
  exact V_iret C (by decide +kernel) rfl
set_option maxRecDepth 100000 in
set_option maxHeartbeats 400000 in
theorem cfX4_feed {l : Launch} {G : GG} (a0 : Nat → Nat) {p1 : Int32} {S0 : XT} {out : Int32 × XT} (h : fX4_feed p1 S0 = some out) : Con l G 1 yX4_feed cX4_feed 2 (some .int) [.ref (a0 0), .int p1] (wdX G a0 S0) (some (.int out.1)) (wdX G a0 out.2) := by
  refine Con_of (by decide +kernel) (Nat.le_of_ble_eq_true rfl) (fun E hl hG hn C => ?_)
  subst hl
  subst hG
  have C : Ctx E cX4_feed RX4 1 (some .int) := C
  show V E _ _ 0 [(0, .ref (a0 0)), (1, .int p1)] []
  unfold fX4_feed at h
  refine V_pb C hn [(.iload_n 1, 1)] (pc' := 1) (ls' := [(0, .ref (a0 0)), (1, .int p1)]) (st' := [.int p1]) (decB_ok (by decide +kernel)) rfl rfl ?_
  refine V_if_lt C (off := 10) (tgt := 11) (by decide +kernel) (by decide) h (fun _ h => ?_) (fun _ h => ?_)
  · refine V_sub (ls' := [(0, .ref (a0 0))]) rfl ?_
    exact cfX4_feed_j11 C hn h
  · refine V_pb C hn [(.iload_n 1, 1), (.sipush 255, 3)] (pc' := 8) (ls' := [(0, .ref (a0 0)), (1, .int p1)]) (st' := [.int (255 : Int32), .int p1]) (decB_ok (by decide +kernel)) rfl rfl ?_
    refine V_ic_le C (off := 10) (tgt := 18) (by decide +kernel) (by decide) h (fun _ h => ?_) (fun _ h => ?_)
    · refine V_pb C hn [(.aload_n 0, 1)] (pc' := 19) (ls' := [(0, .ref (a0 0)), (1, .int p1)]) (st' := [.ref (a0 0)]) (decB_ok (by decide +kernel)) rfl rfl ?_
      refine V_get C (v := .ref (a0 16)) (by decide +kernel) 0 5 fk_RX4_31 rfl rfl ?_
      refine V_get C (v := .int (t_size (x_tape S0))) (by decide +kernel) 16 1 fk_RX4_165 rfl rfl ?_
      refine V_pb C hn [(.sipush 250, 3)] (pc' := 28) (ls' := [(0, .ref (a0 0)), (1, .int p1)]) (st' := [.int (250 : Int32), .int (t_size (x_tape S0))]) (decB_ok (by decide +kernel)) rfl rfl ?_
      refine V_ic_lt C (off := 10) (tgt := 38) (by decide +kernel) (by decide) h (fun _ h => ?_) (fun _ h => ?_)
      · refine V_pb C hn [(.aload_n 0, 1)] (pc' := 39) (ls' := [(0, .ref (a0 0)), (1, .int p1)]) (st' := [.ref (a0 0)]) (decB_ok (by decide +kernel)) rfl rfl ?_
        refine V_get C (v := .ref (a0 16)) (by decide +kernel) 0 5 fk_RX4_31 rfl rfl ?_
        refine V_pb C hn [(.iload_n 1, 1)] (pc' := 43) (ls' := [(0, .ref (a0 0)), (1, .int p1)]) (st' := [.int p1, .ref (a0 16)]) (decB_ok (by decide +kernel)) rfl rfl ?_
        obtain ⟨q3, h4, h⟩ := bnd h
        refine V_callV (ws' := wdX E.G a0 (xs_tape S0 q3)) C (As := [.int p1]) (rest := []) (by decide +kernel) ok_yX3_add mk_RX4_168 (cfX3_add (l := E.l) (G := E.G) (fun j => a0 (16 + j)) h4) [16, 17] (q0 := 0) rfl rfl rfl rfl rfl rfl rfl rfl rfl (Nat.le_of_ble_eq_true rfl) (Nat.le_of_ble_eq_true rfl) (Nat.le_of_ble_eq_true rfl) ?_
        show V E _ (wdX E.G a0 (xs_tape S0 q3)) 46 [(0, .ref (a0 0)), (1, .int p1)] []
        refine V_pb C hn [(.aload_n 0, 1)] (pc' := 47) (ls' := [(0, .ref (a0 0)), (1, .int p1)]) (st' := [.ref (a0 0)]) (decB_ok (by decide +kernel)) rfl rfl ?_
        refine V_get C (v := .ref (a0 16)) (by decide +kernel) 0 5 fk_RX4_31 rfl rfl ?_
        refine V_get C (v := .int (t_size q3)) (by decide +kernel) 16 1 fk_RX4_165 rfl rfl ?_
        have h := Option.some.inj h
        subst h
        exact V_iret C (by decide +kernel) rfl
      · refine V_pb C hn [(.aload_n 0, 1), (.bipush (-6), 2)] (pc' := 34) (ls' := [(0, .ref (a0 0)), (1, .int p1)]) (st' := [.int (cI (-6)), .ref (a0 0)]) (decB_ok (by decide +kernel)) rfl rfl ?_
        obtain ⟨q5, h6, h⟩ := bnd h
        refine V_callV0 C (As := [.int (cI (-6))]) (rest := []) (by decide +kernel) ok_yX4_refuse mk_RX4_57 (cfX4_refuse (l := E.l) (G := E.G) a0 h6) (q0 := 0) rfl rfl rfl rfl rfl rfl (Nat.le_of_ble_eq_true rfl) (Nat.le_of_ble_eq_true rfl) (Nat.le_of_ble_eq_true rfl) ?_
        show V E _ (wdX E.G a0 q5.2) 37 [(0, .ref (a0 0)), (1, .int p1)] [.int q5.1]
        have h := Option.some.inj h
        subst h
        exact V_iret C (by decide +kernel) rfl
    · refine V_sub (ls' := [(0, .ref (a0 0))]) rfl ?_
      exact cfX4_feed_j11 C hn h
set_option maxRecDepth 100000 in
set_option maxHeartbeats 400000 in
theorem cfX4_wipe {l : Launch} {G : GG} (a0 : Nat → Nat) {S0 : XT} {out : Int32 × XT} (h : fX4_wipe S0 = some out) : Con l G 0 yX4_wipe cX4_wipe 2 (some .int) [.ref (a0 0)] (wdX G a0 S0) (some (.int out.1)) (wdX G a0 out.2) := by
  refine Con_of (by decide +kernel) (Nat.le_of_ble_eq_true rfl) (fun E hl hG hn C => ?_)
  subst hl
  subst hG
  have C : Ctx E cX4_wipe RX4 0 (some .int) := C
  show V E _ _ 0 [(0, .ref (a0 0))] []
  unfold fX4_wipe at h
  refine V_pb C hn [(.aload_n 0, 1)] (pc' := 1) (ls' := [(0, .ref (a0 0))]) (st' := [.ref (a0 0)]) (decB_ok (by decide +kernel)) rfl rfl ?_
  refine V_get C (v := .ref (a0 16)) (by decide +kernel) 0 5 fk_RX4_31 rfl rfl ?_
  refine V_get C (v := .int (t_size (x_tape S0))) (by decide +kernel) 16 1 fk_RX4_165 rfl rfl ?_
  refine V_pb C hn [(.istore_n 1, 1), (.aload_n 0, 1)] (pc' := 9) (ls' := [(0, .ref (a0 0)), (1, .int (t_size (x_tape S0)))]) (st' := [.ref (a0 0)]) (decB_ok (by decide +kernel)) rfl rfl ?_
  refine V_get C (v := .ref (a0 16)) (by decide +kernel) 0 5 fk_RX4_31 rfl rfl ?_
  refine V_pb C hn [(.iconst 0, 1)] (pc' := 13) (ls' := [(0, .ref (a0 0)), (1, .int (t_size (x_tape S0)))]) (st' := [.int (0 : Int32), .ref (a0 16)]) (decB_ok (by decide +kernel)) rfl rfl ?_
  refine V_put C (v := .int (0 : Int32)) (ws' := wdX E.G a0 (xs_tape S0 (ts_size (x_tape S0) (0 : Int32)))) (by decide +kernel) 16 1 pk_RX4_165 rfl rfl rfl (Nat.le_of_ble_eq_true rfl) rfl ?_
  refine V_pb C hn [(.iload_n 1, 1)] (pc' := 17) (ls' := [(0, .ref (a0 0)), (1, .int (t_size (x_tape S0)))]) (st' := [.int (t_size (x_tape S0))]) (decB_ok (by decide +kernel)) rfl rfl ?_
  have h := Option.some.inj h
  subst h
  exact V_iret C (by decide +kernel) rfl
set_option maxRecDepth 100000 in
set_option maxHeartbeats 400000 in
theorem cfX4_hall {l : Launch} {G : GG} (a0 : Nat → Nat) {S0 : XT} {out : Int32 × XT} (h : fX4_hall S0 = some out) : Con l G 8 yX4_hall cX4_hall 2 (some .int) [.ref (a0 0)] (wdX G a0 S0) (some (.int out.1)) (wdX G a0 out.2) := by
  refine Con_of (by decide +kernel) (Nat.le_of_ble_eq_true rfl) (fun E hl hG hn C => ?_)
  subst hl
  subst hG
  have C : Ctx E cX4_hall RX4 8 (some .int) := C
  show V E _ _ 0 [(0, .ref (a0 0))] []
  unfold fX4_hall at h
  refine V_pb C hn [(.aload_n 0, 1)] (pc' := 1) (ls' := [(0, .ref (a0 0))]) (st' := [.ref (a0 0)]) (decB_ok (by decide +kernel)) rfl rfl ?_
  refine V_get C (v := .ref (a0 12)) (by decide +kernel) 0 2 fk_RX4_19 rfl rfl ?_
  refine V_pb C hn [(.aload_n 0, 1)] (pc' := 5) (ls' := [(0, .ref (a0 0))]) (st' := [.ref (a0 0), .ref (a0 12)]) (decB_ok (by decide +kernel)) rfl rfl ?_
  refine V_get C (v := .ref (a0 4)) (by decide +kernel) 0 0 fk_RX4_12 rfl rfl ?_
  obtain ⟨q1, h2, h⟩ := bnd h
  refine V_callV (ws' := wdX E.G a0 (xs_trial S0 q1)) C (As := [.ref (a0 4)]) (rest := []) (by decide +kernel) ok_yX1_takeOver mk_RX4_170 (cfX1_takeOver (l := E.l) (G := E.G) (fun j => a0 (12 + j)) (fun j => a0 (4 + j)) h2) [12, 13, 14, 15, 4, 5, 6, 7] (q0 := 0) rfl rfl rfl rfl rfl rfl rfl rfl rfl (Nat.le_of_ble_eq_true rfl) (Nat.le_of_ble_eq_true rfl) (Nat.le_of_ble_eq_true rfl) ?_
  show V E _ (wdX E.G a0 (xs_trial S0 q1)) 11 [(0, .ref (a0 0))] []
  refine V_pb C hn [(.aload_n 0, 1)] (pc' := 12) (ls' := [(0, .ref (a0 0))]) (st' := [.ref (a0 0)]) (decB_ok (by decide +kernel)) rfl rfl ?_
  refine V_get C (v := .ref (a0 16)) (by decide +kernel) 0 5 fk_RX4_31 rfl rfl ?_
  refine V_pb C hn [(.aload_n 0, 1)] (pc' := 16) (ls' := [(0, .ref (a0 0))]) (st' := [.ref (a0 0), .ref (a0 16)]) (decB_ok (by decide +kernel)) rfl rfl ?_
  refine V_get C (v := .ref (a0 12)) (by decide +kernel) 0 2 fk_RX4_19 rfl rfl ?_
  obtain ⟨q3, h4, h⟩ := bnd h
  refine V_callV (ws' := wdX E.G a0 (xs_tape (xs_trial S0 q3.2.2) q3.2.1)) C (As := [.ref (a0 12)]) (rest := []) (by decide +kernel) ok_yX3_read mk_RX4_174 (cfX3_read (l := E.l) (G := E.G) (fun j => a0 (16 + j)) (fun j => a0 (12 + j)) h4) [16, 17, 12, 13, 14, 15] (q0 := 0) rfl rfl rfl rfl rfl rfl rfl rfl rfl (Nat.le_of_ble_eq_true rfl) (Nat.le_of_ble_eq_true rfl) (Nat.le_of_ble_eq_true rfl) ?_
  show V E _ (wdX E.G a0 (xs_tape (xs_trial S0 q3.2.2) q3.2.1)) 22 [(0, .ref (a0 0))] [.int q3.1]
  refine V_pb C hn [(.istore_n 1, 1), (.aload_n 0, 1)] (pc' := 24) (ls' := [(0, .ref (a0 0)), (1, .int q3.1)]) (st' := [.ref (a0 0)]) (decB_ok (by decide +kernel)) rfl rfl ?_
  refine V_get C (v := .ref (a0 16)) (by decide +kernel) 0 5 fk_RX4_31 rfl rfl ?_
  refine V_pb C hn [(.iconst 0, 1)] (pc' := 28) (ls' := [(0, .ref (a0 0)), (1, .int q3.1)]) (st' := [.int (0 : Int32), .ref (a0 16)]) (decB_ok (by decide +kernel)) rfl rfl ?_
  refine V_put C (v := .int (0 : Int32)) (ws' := wdX E.G a0 (xs_tape (xs_trial S0 q3.2.2) (ts_size q3.2.1 (0 : Int32)))) (by decide +kernel) 16 1 pk_RX4_165 rfl rfl rfl (Nat.le_of_ble_eq_true rfl) rfl ?_
  refine V_pb C hn [(.iload_n 1, 1), (.iconst (-1), 1)] (pc' := 33) (ls' := [(0, .ref (a0 0)), (1, .int q3.1)]) (st' := [.int (cI (-1)), .int q3.1]) (decB_ok (by decide +kernel)) rfl rfl ?_
  refine V_ic_ne C (off := 21) (tgt := 54) (by decide +kernel) (by decide) h (fun _ h => ?_) (fun _ h => ?_)
  · refine V_pb C hn [(.aload_n 0, 1), (.bipush (-2), 2)] (pc' := 39) (ls' := [(0, .ref (a0 0)), (1, .int q3.1)]) (st' := [.int (cI (-2)), .ref (a0 0)]) (decB_ok (by decide +kernel)) rfl rfl ?_
    obtain ⟨q5, h6, h⟩ := bnd h
    refine V_callV0 C (As := [.int (cI (-2))]) (rest := []) (by decide +kernel) ok_yX4_refuse mk_RX4_57 (cfX4_refuse (l := E.l) (G := E.G) a0 h6) (q0 := 0) rfl rfl rfl rfl rfl rfl (Nat.le_of_ble_eq_true rfl) (Nat.le_of_ble_eq_true rfl) (Nat.le_of_ble_eq_true rfl) ?_
    show V E _ (wdX E.G a0 q5.2) 42 [(0, .ref (a0 0)), (1, .int q3.1)] [.int q5.1]
    refine V_pb C hn [(.pop, 1), (.bipush (-20), 2), (.aload_n 0, 1)] (pc' := 46) (ls' := [(0, .ref (a0 0)), (1, .int q3.1)]) (st' := [.ref (a0 0), .int (cI (-20))]) (decB_ok (by decide +kernel)) rfl rfl ?_
    refine V_get C (v := .ref (a0 16)) (by decide +kernel) 0 5 fk_RX4_31 rfl rfl ?_
    refine V_get C (v := .int (t_start (x_tape q5.2))) (by decide +kernel) 16 2 fk_RX4_178 rfl rfl ?_
    refine V_pb C hn [(.isub, 1)] (pc' := 53) (ls' := [(0, .ref (a0 0)), (1, .int q3.1)]) (st' := [.int ((cI (-20)) - (t_start (x_tape q5.2)))]) (decB_ok (by decide +kernel)) rfl rfl ?_
    have h := Option.some.inj h
    subst h
    exact V_iret C (by decide +kernel) rfl
  · refine V_pb C hn [(.aload_n 0, 1)] (pc' := 55) (ls' := [(0, .ref (a0 0)), (1, .int q3.1)]) (st' := [.ref (a0 0)]) (decB_ok (by decide +kernel)) rfl rfl ?_
    refine V_get C (v := .ref (a0 4)) (by decide +kernel) 0 0 fk_RX4_12 rfl rfl ?_
    refine V_pb C hn [(.aload_n 0, 1)] (pc' := 59) (ls' := [(0, .ref (a0 0)), (1, .int q3.1)]) (st' := [.ref (a0 0), .ref (a0 4)]) (decB_ok (by decide +kernel)) rfl rfl ?_
    refine V_get C (v := .ref (a0 12)) (by decide +kernel) 0 2 fk_RX4_19 rfl rfl ?_
    obtain ⟨q7, h8, h⟩ := bnd h
    refine V_callV (ws' := wdX E.G a0 (xs_tape (xs_trial (xs_now S0 q7) q3.2.2) (ts_size q3.2.1 (0 : Int32)))) C (As := [.ref (a0 12)]) (rest := []) (by decide +kernel) ok_yX1_takeOver mk_RX4_170 (cfX1_takeOver (l := E.l) (G := E.G) (fun j => a0 (4 + j)) (fun j => a0 (12 + j)) h8) [4, 5, 6, 7, 12, 13, 14, 15] (q0 := 0) rfl rfl rfl rfl rfl rfl rfl rfl rfl (Nat.le_of_ble_eq_true rfl) (Nat.le_of_ble_eq_true rfl) (Nat.le_of_ble_eq_true rfl) ?_
    show V E _ (wdX E.G a0 (xs_tape (xs_trial (xs_now S0 q7) q3.2.2) (ts_size q3.2.1 (0 : Int32)))) 65 [(0, .ref (a0 0)), (1, .int q3.1)] []
    refine V_pb C hn [(.iload_n 1, 1)] (pc' := 66) (ls' := [(0, .ref (a0 0)), (1, .int q3.1)]) (st' := [.int q3.1]) (decB_ok (by decide +kernel)) rfl rfl ?_
    have h := Option.some.inj h
    subst h
    exact V_iret C (by decide +kernel) rfl
set_option maxRecDepth 100000 in
set_option maxHeartbeats 400000 in
theorem cfX4_bit {l : Launch} {G : GG} {p0 : Int32} {out : Int32} (h : fX4_bit p0 = some out) : Con l G 0 yX4_bit cX4_bit 1 (some .int) [.int p0] (([] : va_W)) (some (.int out)) (([] : va_W)) := by
  refine Con_of (by decide +kernel) (Nat.le_of_ble_eq_true rfl) (fun E hl hG hn C => ?_)
  subst hl
  subst hG
  have C : Ctx E cX4_bit RX4 0 (some .int) := C
  show V E _ _ 0 [(0, .int p0)] []
  unfold fX4_bit at h
  refine V_pb C hn [(.iload_n 0, 1)] (pc' := 1) (ls' := [(0, .int p0)]) (st' := [.int p0]) (decB_ok (by decide +kernel)) rfl rfl ?_
  refine V_if_eq C (off := 7) (tgt := 8) (by decide +kernel) (by decide) h (fun _ h => ?_) (fun _ h => ?_)
  · refine V_pb C hn [(.iconst 0, 1)] (pc' := 9) (ls' := [(0, .int p0)]) (st' := [.int (0 : Int32)]) (decB_ok (by decide +kernel)) rfl rfl ?_
    have h := Option.some.inj h
    subst h
    exact V_iret C (by decide +kernel) rfl
  · refine V_pb C hn [(.iconst 1, 1)] (pc' := 5) (ls' := [(0, .int p0)]) (st' := [.int (1 : Int32)]) (decB_ok (by decide +kernel)) rfl rfl ?_
    refine V_goto C (off := 4) (tgt := 9) (by decide +kernel) (by decide) ?_
    have h := Option.some.inj h
    subst h
    exact V_iret C (by decide +kernel) rfl
set_option maxRecDepth 100000 in
set_option maxHeartbeats 400000 in
theorem cfX4_countSetsWithout_j90 {E : VE} (C : Ctx E cX4_countSetsWithout RX4 1 none) (hn : E.nL = 5) {a0 : Nat → Nat} {p1 : Int32} {v2 : Int32} {S0 : XT} {out : XT} {k17 : Int32 → XT → Option (XT)} (hk17 : ∀ (v2 : Int32) (S0 : XT), k17 v2 S0 = some out → V E (QR E none (wdX E.G a0 out)) (wdX E.G a0 S0) 17 [(0, .ref (a0 0)), (1, .int p1), (2, .int v2)] []) (h : fX4_countSetsWithout_j90 k17 p1 v2 S0 = some out) : V E (QR E none (wdX E.G a0 out)) (wdX E.G a0 S0) 90 [(0, .ref (a0 0)), (1, .int p1), (2, .int v2)] [] := by
  unfold fX4_countSetsWithout_j90 at h
  refine V_pb C hn [(.iinc 2 1, 3)] (pc' := 93) (ls' := [(0, .ref (a0 0)), (1, .int p1), (2, .int (v2 + (1 : Int32)))]) (st' := []) (decB_ok (by decide +kernel)) rfl rfl ?_
  refine V_goto C (off := -76) (tgt := 17) (by decide +kernel) (by decide) ?_
  refine V_sub (ls' := [(0, .ref (a0 0)), (1, .int p1), (2, .int (v2 + (1 : Int32)))]) rfl ?_
  exact hk17 _ _ h
set_option maxRecDepth 100000 in
set_option maxHeartbeats 400000 in
theorem cfX4_countSetsWithout_L59 {E : VE} (C : Ctx E cX4_countSetsWithout RX4 1 none) (hn : E.nL = 5) {a0 : Nat → Nat} {p1 : Int32} {out : XT} {k17 : Int32 → XT → Option (XT)} (hk17 : ∀ (v2 : Int32) (S0 : XT), k17 v2 S0 = some out → V E (QR E none (wdX E.G a0 out)) (wdX E.G a0 S0) 17 [(0, .ref (a0 0)), (1, .int p1), (2, .int v2)] []) : ∀ (n : Nat) (v2 : Int32) (v3 : Int32) (v4 : Int32) (S0 : XT), fX4_countSetsWithout_L59 k17 p1 n v2 v3 v4 S0 = some out → V E (QR E none (wdX E.G a0 out)) (wdX E.G a0 S0) 59 [(0, .ref (a0 0)), (1, .int p1), (2, .int v2), (3, .int v3), (4, .int v4)] [] := by
  intro n
  induction n with
  | zero =>
    intro v2 v3 v4 S0 h
    cases h
  | succ n ih =>
    intro v2 v3 v4 S0 h
    unfold fX4_countSetsWithout_L59 at h
    refine V_pb C hn [(.iload 4, 2), (.iload_n 3, 1)] (pc' := 62) (ls' := [(0, .ref (a0 0)), (1, .int p1), (2, .int v2), (3, .int v3), (4, .int v4)]) (st' := [.int v3, .int v4]) (decB_ok (by decide +kernel)) rfl rfl ?_
    refine V_ic_lt C (off := 28) (tgt := 90) (by decide +kernel) (by decide) h (fun _ h => ?_) (fun _ h => ?_)
    · refine V_sub (ls' := [(0, .ref (a0 0)), (1, .int p1), (2, .int v2)]) rfl ?_
      exact cfX4_countSetsWithout_j90 C hn (k17 := k17) (hk17) h
    · refine V_pb C hn [(.aload_n 0, 1)] (pc' := 66) (ls' := [(0, .ref (a0 0)), (1, .int p1), (2, .int v2), (3, .int v3), (4, .int v4)]) (st' := [.ref (a0 0)]) (decB_ok (by decide +kernel)) rfl rfl ?_
      refine V_get C (v := .ref (a0 2)) (by decide +kernel) 0 8 fk_RX4_46 rfl rfl ?_
      refine V_pb C hn [(.iload 4, 2), (.dup2, 1)] (pc' := 72) (ls' := [(0, .ref (a0 0)), (1, .int p1), (2, .int v2), (3, .int v3), (4, .int v4)]) (st' := [.int v4, .ref (a0 2), .int v4, .ref (a0 2)]) (decB_ok (by decide +kernel)) rfl rfl ?_
      refine V_iald C (f := (x_sets S0)) (by decide +kernel) 2 rfl h (fun h => ?_)
      refine V_pb C hn [(.aload_n 0, 1)] (pc' := 74) (ls' := [(0, .ref (a0 0)), (1, .int p1), (2, .int v2), (3, .int v3), (4, .int v4)]) (st' := [.ref (a0 0), .int ((x_sets S0) (ix v4)), .int v4, .ref (a0 2)]) (decB_ok (by decide +kernel)) rfl rfl ?_
      refine V_get C (v := .ref (a0 2)) (by decide +kernel) 0 8 fk_RX4_46 rfl rfl ?_
      refine V_pb C hn [(.iload 4, 2), (.iload_n 3, 1), (.isub, 1)] (pc' := 81) (ls' := [(0, .ref (a0 0)), (1, .int p1), (2, .int v2), (3, .int v3), (4, .int v4)]) (st' := [.int (v4 - v3), .ref (a0 2), .int ((x_sets S0) (ix v4)), .int v4, .ref (a0 2)]) (decB_ok (by decide +kernel)) rfl rfl ?_
      refine V_iald C (f := (x_sets S0)) (by decide +kernel) 2 rfl h (fun h => ?_)
      refine V_pb C hn [(.iadd, 1)] (pc' := 83) (ls' := [(0, .ref (a0 0)), (1, .int p1), (2, .int v2), (3, .int v3), (4, .int v4)]) (st' := [.int (((x_sets S0) (ix v4)) + ((x_sets S0) (ix (v4 - v3)))), .int v4, .ref (a0 2)]) (decB_ok (by decide +kernel)) rfl rfl ?_
      obtain ⟨x5, e6, h⟩ := bnd h
      refine V_topi e6 ?_
      obtain ⟨hb9, h⟩ := gd_some h
      obtain ⟨w7, e8, h⟩ := bnd h
      refine V_iast C (f := (x_sets S0)) (ws' := wdX E.G a0 w7) (by decide +kernel) 2 rfl (o := some ()) (out := ()) (by rw [hb9]; rfl) (by cases e8; rfl) (fun _ => ?_)
      refine V_pb C hn [(.iinc 4 (-1), 3)] (pc' := 87) (ls' := [(0, .ref (a0 0)), (1, .int p1), (2, .int v2), (3, .int v3), (4, .int (v4 + (cI (-1))))]) (st' := []) (decB_ok (by decide +kernel)) rfl rfl ?_
      refine V_goto C (off := -28) (tgt := 59) (by decide +kernel) (by decide) ?_
      refine V_sub (ls' := [(0, .ref (a0 0)), (1, .int p1), (2, .int v2), (3, .int v3), (4, .int (v4 + (cI (-1))))]) rfl ?_
      exact ih _ _ _ _ h
set_option maxRecDepth 100000 in
set_option maxHeartbeats 400000 in
theorem cfX4_countSetsWithout_L17 {E : VE} (C : Ctx E cX4_countSetsWithout RX4 1 none) (hn : E.nL = 5) {a0 : Nat → Nat} {p1 : Int32} {out : XT} : ∀ (n : Nat) (v2 : Int32) (S0 : XT), fX4_countSetsWithout_L17 p1 n v2 S0 = some out → V E (QR E none (wdX E.G a0 out)) (wdX E.G a0 S0) 17 [(0, .ref (a0 0)), (1, .int p1), (2, .int v2)] [] := by
  intro n
  induction n with
  | zero =>
    intro v2 S0 h
    cases h
  | succ n ih =>
    intro v2 S0 h
    unfold fX4_countSetsWithout_L17 at h
    refine V_pb C hn [(.iload_n 2, 1), (.aload_n 0, 1)] (pc' := 19) (ls' := [(0, .ref (a0 0)), (1, .int p1), (2, .int v2)]) (st' := [.ref (a0 0), .int v2]) (decB_ok (by decide +kernel)) rfl rfl ?_
    refine V_get C (v := .ref (a0 4)) (by decide +kernel) 0 0 fk_RX4_12 rfl rfl ?_
    refine V_get C (v := .int (h_count (x_now S0))) (by decide +kernel) 4 1 fk_RX4_146 rfl rfl ?_
    refine V_ic_ge C (off := 71) (tgt := 96) (by decide +kernel) (by decide) h (fun _ h => ?_) (fun _ h => ?_)
    · have h := Option.some.inj h
      subst h
      exact V_vret C (by decide +kernel)
    · refine V_pb C hn [(.aload_n 0, 1)] (pc' := 29) (ls' := [(0, .ref (a0 0)), (1, .int p1), (2, .int v2)]) (st' := [.ref (a0 0)]) (decB_ok (by decide +kernel)) rfl rfl ?_
      refine V_get C (v := .ref (a0 4)) (by decide +kernel) 0 0 fk_RX4_12 rfl rfl ?_
      refine V_get C (v := .ref (a0 6)) (by decide +kernel) 4 3 fk_RX4_119 rfl rfl ?_
      refine V_pb C hn [(.iload_n 2, 1)] (pc' := 36) (ls' := [(0, .ref (a0 0)), (1, .int p1), (2, .int v2)]) (st' := [.int v2, .ref (a0 6)]) (decB_ok (by decide +kernel)) rfl rfl ?_
      refine V_iald C (f := (h_weightOf (x_now S0))) (by decide +kernel) 6 rfl h (fun h => ?_)
      refine V_pb C hn [(.istore_n 3, 1), (.iload_n 2, 1), (.iload_n 1, 1)] (pc' := 40) (ls' := [(0, .ref (a0 0)), (1, .int p1), (2, .int v2), (3, .int ((h_weightOf (x_now S0)) (ix v2)))]) (st' := [.int p1, .int v2]) (decB_ok (by decide +kernel)) rfl rfl ?_
      refine V_ic_eq C (off := 50) (tgt := 90) (by decide +kernel) (by decide) h (fun _ h => ?_) (fun _ h => ?_)
      · refine V_sub (ls' := [(0, .ref (a0 0)), (1, .int p1), (2, .int v2)]) rfl ?_
        exact cfX4_countSetsWithout_j90 C hn (k17 := (fun v2 S0 => fX4_countSetsWithout_L17 p1 n v2 S0)) (fun v2 S0 h => ih v2 S0 h) h
      · refine V_pb C hn [(.iload_n 3, 1)] (pc' := 44) (ls' := [(0, .ref (a0 0)), (1, .int p1), (2, .int v2), (3, .int ((h_weightOf (x_now S0)) (ix v2)))]) (st' := [.int ((h_weightOf (x_now S0)) (ix v2))]) (decB_ok (by decide +kernel)) rfl rfl ?_
        refine V_if_ge C (off := 6) (tgt := 50) (by decide +kernel) (by decide) h (fun _ h => ?_) (fun _ h => ?_)
        · refine V_pb C hn [(.aload_n 0, 1)] (pc' := 51) (ls' := [(0, .ref (a0 0)), (1, .int p1), (2, .int v2), (3, .int ((h_weightOf (x_now S0)) (ix v2)))]) (st' := [.ref (a0 0)]) (decB_ok (by decide +kernel)) rfl rfl ?_
          refine V_get C (v := .ref (a0 2)) (by decide +kernel) 0 8 fk_RX4_46 rfl rfl ?_
          refine V_alen C (v := (91 : Int32)) (by decide +kernel) 2 0 rfl rfl rfl ?_
          refine V_pb C hn [(.iconst 1, 1), (.isub, 1), (.istore 4, 2)] (pc' := 59) (ls' := [(0, .ref (a0 0)), (1, .int p1), (2, .int v2), (3, .int ((h_weightOf (x_now S0)) (ix v2))), (4, .int ((91 : Int32) - (1 : Int32)))]) (st' := []) (decB_ok (by decide +kernel)) rfl rfl ?_
          refine V_sub (ls' := [(0, .ref (a0 0)), (1, .int p1), (2, .int v2), (3, .int ((h_weightOf (x_now S0)) (ix v2))), (4, .int ((91 : Int32) - (1 : Int32)))]) rfl ?_
          exact cfX4_countSetsWithout_L59 C hn (k17 := (fun v2 S0 => fX4_countSetsWithout_L17 p1 n v2 S0)) (fun v2 S0 h => ih v2 S0 h) FU _ _ _ _ h
        · refine V_goto C (off := 43) (tgt := 90) (by decide +kernel) (by decide) ?_
          refine V_sub (ls' := [(0, .ref (a0 0)), (1, .int p1), (2, .int v2)]) rfl ?_
          exact cfX4_countSetsWithout_j90 C hn (k17 := (fun v2 S0 => fX4_countSetsWithout_L17 p1 n v2 S0)) (fun v2 S0 h => ih v2 S0 h) h
set_option maxRecDepth 100000 in
set_option maxHeartbeats 400000 in
theorem cfX4_countSetsWithout {l : Launch} {G : GG} (a0 : Nat → Nat) {p1 : Int32} {S0 : XT} {out : XT} (h : fX4_countSetsWithout p1 S0 = some out) : Con l G 1 yX4_countSetsWithout cX4_countSetsWithout 5 none [.ref (a0 0), .int p1] (wdX G a0 S0) none (wdX G a0 out) := by
  refine Con_of (by decide +kernel) (Nat.le_of_ble_eq_true rfl) (fun E hl hG hn C => ?_)
  subst hl
  subst hG
  have C : Ctx E cX4_countSetsWithout RX4 1 none := C
  show V E _ _ 0 [(0, .ref (a0 0)), (1, .int p1)] []
  unfold fX4_countSetsWithout at h
  refine V_pb C hn [(.aload_n 0, 1)] (pc' := 1) (ls' := [(0, .ref (a0 0)), (1, .int p1)]) (st' := [.ref (a0 0)]) (decB_ok (by decide +kernel)) rfl rfl ?_
  refine V_get C (v := .ref (a0 2)) (by decide +kernel) 0 8 fk_RX4_46 rfl rfl ?_
  refine V_pb C hn [(.iconst 0, 1)] (pc' := 5) (ls' := [(0, .ref (a0 0)), (1, .int p1)]) (st' := [.int (0 : Int32), .ref (a0 2)]) (decB_ok (by decide +kernel)) rfl rfl ?_
  obtain ⟨q1, h2, h⟩ := bnd h
  refine V_callS (ws' := wdX E.G a0 (xs_sets S0 q1)) C (As := [.ref (a0 2), .int (0 : Int32)]) (rest := []) (by decide +kernel) ok_yJ7_fill_53178 mk_RX4_331 (cfJ7_fill_53178 (l := E.l) (G := E.G) (fun j => a0 (2 + j)) h2) [2] rfl rfl rfl rfl rfl rfl (Nat.le_of_ble_eq_true rfl) (Nat.le_of_ble_eq_true rfl) (Nat.le_of_ble_eq_true rfl) ?_
  show V E _ (wdX E.G a0 (xs_sets S0 q1)) 8 [(0, .ref (a0 0)), (1, .int p1)] []
  refine V_pb C hn [(.aload_n 0, 1)] (pc' := 9) (ls' := [(0, .ref (a0 0)), (1, .int p1)]) (st' := [.ref (a0 0)]) (decB_ok (by decide +kernel)) rfl rfl ?_
  refine V_get C (v := .ref (a0 2)) (by decide +kernel) 0 8 fk_RX4_46 rfl rfl ?_
  refine V_pb C hn [(.iconst 0, 1), (.iconst 1, 1)] (pc' := 14) (ls' := [(0, .ref (a0 0)), (1, .int p1)]) (st' := [.int (1 : Int32), .int (0 : Int32), .ref (a0 2)]) (decB_ok (by decide +kernel)) rfl rfl ?_
  obtain ⟨hb9, h⟩ := gd_some h
  obtain ⟨w3, e4, h⟩ := bnd h
  refine V_iast C (f := q1) (ws' := wdX E.G a0 w3) (by decide +kernel) 2 rfl (o := some ()) (out := ()) (by rw [hb9]; rfl) (by cases e4; rfl) (fun _ => ?_)
  refine V_pb C hn [(.iconst 0, 1), (.istore_n 2, 1)] (pc' := 17) (ls' := [(0, .ref (a0 0)), (1, .int p1), (2, .int (0 : Int32))]) (st' := []) (decB_ok (by decide +kernel)) rfl rfl ?_
  refine V_sub (ls' := [(0, .ref (a0 0)), (1, .int p1), (2, .int (0 : Int32))]) rfl ?_
  exact cfX4_countSetsWithout_L17 C hn FU _ _ h
set_option maxRecDepth 100000 in
set_option maxHeartbeats 400000 in
theorem cfX4_power_j64 {E : VE} (C : Ctx E cX4_power RX4 2 (some .int)) (hn : E.nL = 5) {a0 : Nat → Nat} {p1 : Int32} {v2 : Int32} {v3 : Int32} {v4 : Int32} {S0 : XT} {out : Int32 × XT} {k18 : Int32 → Int32 → Int32 → XT → Option (Int32 × XT)} (hk18 : ∀ (v2 : Int32) (v3 : Int32) (v4 : Int32) (S0 : XT), k18 v2 v3 v4 S0 = some out → V E (QR E (some (.int out.1)) (wdX E.G a0 out.2)) (wdX E.G a0 S0) 18 [(0, .ref (a0 0)), (1, .int p1), (2, .int v2), (3, .int v3), (4, .int v4)] []) (h : fX4_power_j64 k18 p1 v2 v3 v4 S0 = some out) : V E (QR E (some (.int out.1)) (wdX E.G a0 out.2)) (wdX E.G a0 S0) 64 [(0, .ref (a0 0)), (1, .int p1), (2, .int v2), (3, .int v3), (4, .int v4)] [] := by
  unfold fX4_power_j64 at h
  refine V_pb C hn [(.iinc 4 1, 3)] (pc' := 67) (ls' := [(0, .ref (a0 0)), (1, .int p1), (2, .int v2), (3, .int v3), (4, .int (v4 + (1 : Int32)))]) (st' := []) (decB_ok (by decide +kernel)) rfl rfl ?_
  refine V_goto C (off := -49) (tgt := 18) (by decide +kernel) (by decide) ?_
  refine V_sub (ls' := [(0, .ref (a0 0)), (1, .int p1), (2, .int v2), (3, .int v3), (4, .int (v4 + (1 : Int32)))]) rfl ?_
  exact hk18 _ _ _ _ h
set_option maxRecDepth 100000 in
set_option maxHeartbeats 400000 in
theorem cfX4_power_L18 {E : VE} (C : Ctx E cX4_power RX4 2 (some .int)) (hn : E.nL = 5) {a0 : Nat → Nat} {p1 : Int32} {out : Int32 × XT} : ∀ (n : Nat) (v2 : Int32) (v3 : Int32) (v4 : Int32) (S0 : XT), fX4_power_L18 p1 n v2 v3 v4 S0 = some out → V E (QR E (some (.int out.1)) (wdX E.G a0 out.2)) (wdX E.G a0 S0) 18 [(0, .ref (a0 0)), (1, .int p1), (2, .int v2), (3, .int v3), (4, .int v4)] [] := by
  intro n
  induction n with
  | zero =>
    intro v2 v3 v4 S0 h
    cases h
  | succ n ih =>
    intro v2 v3 v4 S0 h
    unfold fX4_power_L18 at h
    refine V_pb C hn [(.iload 4, 2), (.aload_n 0, 1)] (pc' := 21) (ls' := [(0, .ref (a0 0)), (1, .int p1), (2, .int v2), (3, .int v3), (4, .int v4)]) (st' := [.ref (a0 0), .int v4]) (decB_ok (by decide +kernel)) rfl rfl ?_
    refine V_get C (v := .ref (a0 2)) (by decide +kernel) 0 8 fk_RX4_46 rfl rfl ?_
    refine V_alen C (v := (91 : Int32)) (by decide +kernel) 2 0 rfl rfl rfl ?_
    refine V_ic_ge C (off := 45) (tgt := 70) (by decide +kernel) (by decide) h (fun _ h => ?_) (fun _ h => ?_)
    · refine V_pb C hn [(.iload_n 3, 1)] (pc' := 71) (ls' := [(0, .ref (a0 0)), (1, .int p1), (2, .int v2), (3, .int v3), (4, .int v4)]) (st' := [.int v3]) (decB_ok (by decide +kernel)) rfl rfl ?_
      have h := Option.some.inj h
      subst h
      exact V_iret C (by decide +kernel) rfl
    · refine V_pb C hn [(.iconst 2, 1), (.iload 4, 2), (.imul, 1), (.iload_n 2, 1)] (pc' := 33) (ls' := [(0, .ref (a0 0)), (1, .int p1), (2, .int v2), (3, .int v3), (4, .int v4)]) (st' := [.int v2, .int ((2 : Int32) * v4)]) (decB_ok (by decide +kernel)) rfl rfl ?_
      refine V_ic_gt C (off := 31) (tgt := 64) (by decide +kernel) (by decide) h (fun _ h => ?_) (fun _ h => ?_)
      · refine V_sub (ls' := [(0, .ref (a0 0)), (1, .int p1), (2, .int v2), (3, .int v3), (4, .int v4)]) rfl ?_
        exact cfX4_power_j64 C hn (k18 := (fun v2 v3 v4 S0 => fX4_power_L18 p1 n v2 v3 v4 S0)) (fun v2 v3 v4 S0 h => ih v2 v3 v4 S0 h) h
      · refine V_pb C hn [(.iconst 2, 1), (.iload 4, 2), (.aload_n 0, 1)] (pc' := 40) (ls' := [(0, .ref (a0 0)), (1, .int p1), (2, .int v2), (3, .int v3), (4, .int v4)]) (st' := [.ref (a0 0), .int v4, .int (2 : Int32)]) (decB_ok (by decide +kernel)) rfl rfl ?_
        refine V_get C (v := .ref (a0 4)) (by decide +kernel) 0 0 fk_RX4_12 rfl rfl ?_
        refine V_get C (v := .ref (a0 6)) (by decide +kernel) 4 3 fk_RX4_119 rfl rfl ?_
        refine V_pb C hn [(.iload_n 1, 1)] (pc' := 47) (ls' := [(0, .ref (a0 0)), (1, .int p1), (2, .int v2), (3, .int v3), (4, .int v4)]) (st' := [.int p1, .ref (a0 6), .int v4, .int (2 : Int32)]) (decB_ok (by decide +kernel)) rfl rfl ?_
        refine V_iald C (f := (h_weightOf (x_now S0))) (by decide +kernel) 6 rfl h (fun h => ?_)
        refine V_pb C hn [(.iadd, 1), (.imul, 1), (.iload_n 2, 1)] (pc' := 51) (ls' := [(0, .ref (a0 0)), (1, .int p1), (2, .int v2), (3, .int v3), (4, .int v4)]) (st' := [.int v2, .int ((2 : Int32) * (v4 + ((h_weightOf (x_now S0)) (ix p1))))]) (decB_ok (by decide +kernel)) rfl rfl ?_
        refine V_ic_le C (off := 13) (tgt := 64) (by decide +kernel) (by decide) h (fun _ h => ?_) (fun _ h => ?_)
        · refine V_sub (ls' := [(0, .ref (a0 0)), (1, .int p1), (2, .int v2), (3, .int v3), (4, .int v4)]) rfl ?_
          exact cfX4_power_j64 C hn (k18 := (fun v2 v3 v4 S0 => fX4_power_L18 p1 n v2 v3 v4 S0)) (fun v2 v3 v4 S0 h => ih v2 v3 v4 S0 h) h
        · refine V_pb C hn [(.iload_n 3, 1), (.aload_n 0, 1)] (pc' := 56) (ls' := [(0, .ref (a0 0)), (1, .int p1), (2, .int v2), (3, .int v3), (4, .int v4)]) (st' := [.ref (a0 0), .int v3]) (decB_ok (by decide +kernel)) rfl rfl ?_
          refine V_get C (v := .ref (a0 2)) (by decide +kernel) 0 8 fk_RX4_46 rfl rfl ?_
          refine V_pb C hn [(.iload 4, 2)] (pc' := 61) (ls' := [(0, .ref (a0 0)), (1, .int p1), (2, .int v2), (3, .int v3), (4, .int v4)]) (st' := [.int v4, .ref (a0 2), .int v3]) (decB_ok (by decide +kernel)) rfl rfl ?_
          refine V_iald C (f := (x_sets S0)) (by decide +kernel) 2 rfl h (fun h => ?_)
          refine V_pb C hn [(.iadd, 1), (.istore_n 3, 1)] (pc' := 64) (ls' := [(0, .ref (a0 0)), (1, .int p1), (2, .int v2), (3, .int (v3 + ((x_sets S0) (ix v4)))), (4, .int v4)]) (st' := []) (decB_ok (by decide +kernel)) rfl rfl ?_
          refine V_sub (ls' := [(0, .ref (a0 0)), (1, .int p1), (2, .int v2), (3, .int (v3 + ((x_sets S0) (ix v4)))), (4, .int v4)]) rfl ?_
          exact cfX4_power_j64 C hn (k18 := (fun v2 v3 v4 S0 => fX4_power_L18 p1 n v2 v3 v4 S0)) (fun v2 v3 v4 S0 h => ih v2 v3 v4 S0 h) h
set_option maxRecDepth 100000 in
set_option maxHeartbeats 400000 in
theorem cfX4_power {l : Launch} {G : GG} (a0 : Nat → Nat) {p1 : Int32} {S0 : XT} {out : Int32 × XT} (h : fX4_power p1 S0 = some out) : Con l G 2 yX4_power cX4_power 5 (some .int) [.ref (a0 0), .int p1] (wdX G a0 S0) (some (.int out.1)) (wdX G a0 out.2) := by
  refine Con_of (by decide +kernel) (Nat.le_of_ble_eq_true rfl) (fun E hl hG hn C => ?_)
  subst hl
  subst hG
  have C : Ctx E cX4_power RX4 2 (some .int) := C
  show V E _ _ 0 [(0, .ref (a0 0)), (1, .int p1)] []
  unfold fX4_power at h
  refine V_pb C hn [(.aload_n 0, 1), (.iload_n 1, 1)] (pc' := 2) (ls' := [(0, .ref (a0 0)), (1, .int p1)]) (st' := [.int p1, .ref (a0 0)]) (decB_ok (by decide +kernel)) rfl rfl ?_
  obtain ⟨q1, h2, h⟩ := bnd h
  refine V_callV0 C (As := [.int p1]) (rest := []) (by decide +kernel) ok_yX4_countSetsWithout mk_RX4_328 (cfX4_countSetsWithout (l := E.l) (G := E.G) a0 h2) (q0 := 0) rfl rfl rfl rfl rfl rfl (Nat.le_of_ble_eq_true rfl) (Nat.le_of_ble_eq_true rfl) (Nat.le_of_ble_eq_true rfl) ?_
  show V E _ (wdX E.G a0 q1) 5 [(0, .ref (a0 0)), (1, .int p1)] []
  refine V_pb C hn [(.aload_n 0, 1)] (pc' := 6) (ls' := [(0, .ref (a0 0)), (1, .int p1)]) (st' := [.ref (a0 0)]) (decB_ok (by decide +kernel)) rfl rfl ?_
  refine V_get C (v := .ref (a0 4)) (by decide +kernel) 0 0 fk_RX4_12 rfl rfl ?_
  obtain ⟨q3, h4, h⟩ := bnd h
  refine V_callVp C (As := []) (rest := []) (by decide +kernel) ok_yX1_weightInAll mk_RX4_309 (cfX1_weightInAll (l := E.l) (G := E.G) (fun j => a0 (4 + j)) h4) [4, 5, 6, 7] (q0 := 0) rfl rfl rfl rfl rfl rfl rfl (Nat.le_of_ble_eq_true rfl) (Nat.le_of_ble_eq_true rfl) (Nat.le_of_ble_eq_true rfl) ?_
  show V E _ (wdX E.G a0 q1) 12 [(0, .ref (a0 0)), (1, .int p1)] [.int q3]
  refine V_pb C hn [(.istore_n 2, 1), (.iconst 0, 1), (.istore_n 3, 1), (.iconst 0, 1), (.istore 4, 2)] (pc' := 18) (ls' := [(0, .ref (a0 0)), (1, .int p1), (2, .int q3), (3, .int (0 : Int32)), (4, .int (0 : Int32))]) (st' := []) (decB_ok (by decide +kernel)) rfl rfl ?_
  refine V_sub (ls' := [(0, .ref (a0 0)), (1, .int p1), (2, .int q3), (3, .int (0 : Int32)), (4, .int (0 : Int32))]) rfl ?_
  exact cfX4_power_L18 C hn FU _ _ _ _ h
set_option maxRecDepth 100000 in
set_option maxHeartbeats 400000 in
theorem cfX4_moteOf {l : Launch} {G : GG} (a0 : Nat → Nat) {p1 : Int32} {p2 : Int32} {S0 : XT} {out : Int32 × XT} (h : fX4_moteOf p1 p2 S0 = some out) : Con l G 3 yX4_moteOf cX4_moteOf 3 (some .int) [.ref (a0 0), .int p1, .int p2] (wdX G a0 S0) (some (.int out.1)) (wdX G a0 out.2) := by
  refine Con_of (by decide +kernel) (Nat.le_of_ble_eq_true rfl) (fun E hl hG hn C => ?_)
  subst hl
  subst hG
  have C : Ctx E cX4_moteOf RX4 3 (some .int) := C
  show V E _ _ 0 [(0, .ref (a0 0)), (1, .int p1), (2, .int p2)] []
  unfold fX4_moteOf at h
  refine V_pb C hn [(.aload_n 0, 1), (.iload_n 1, 1)] (pc' := 2) (ls' := [(0, .ref (a0 0)), (1, .int p1), (2, .int p2)]) (st' := [.int p1, .ref (a0 0)]) (decB_ok (by decide +kernel)) rfl rfl ?_
  obtain ⟨q1, h2, h⟩ := bnd h
  refine V_callV0 C (As := [.int p1]) (rest := []) (by decide +kernel) ok_yX4_isMote mk_RX4_100 (cfX4_isMote (l := E.l) (G := E.G) a0 h2) (q0 := 0) rfl rfl rfl rfl rfl rfl (Nat.le_of_ble_eq_true rfl) (Nat.le_of_ble_eq_true rfl) (Nat.le_of_ble_eq_true rfl) ?_
  show V E _ (wdX E.G a0 S0) 5 [(0, .ref (a0 0)), (1, .int p1), (2, .int p2)] [.int q1]
  refine V_if_ne C (off := 10) (tgt := 15) (by decide +kernel) (by decide) h (fun _ h => ?_) (fun _ h => ?_)
  · refine V_pb C hn [(.aload_n 0, 1), (.bipush (-2), 2)] (pc' := 11) (ls' := [(0, .ref (a0 0)), (1, .int p1), (2, .int p2)]) (st' := [.int (cI (-2)), .ref (a0 0)]) (decB_ok (by decide +kernel)) rfl rfl ?_
    obtain ⟨q3, h4, h⟩ := bnd h
    refine V_callV0 C (As := [.int (cI (-2))]) (rest := []) (by decide +kernel) ok_yX4_refuse mk_RX4_57 (cfX4_refuse (l := E.l) (G := E.G) a0 h4) (q0 := 0) rfl rfl rfl rfl rfl rfl (Nat.le_of_ble_eq_true rfl) (Nat.le_of_ble_eq_true rfl) (Nat.le_of_ble_eq_true rfl) ?_
    show V E _ (wdX E.G a0 q3.2) 14 [(0, .ref (a0 0)), (1, .int p1), (2, .int p2)] [.int q3.1]
    have h := Option.some.inj h
    subst h
    exact V_iret C (by decide +kernel) rfl
  · refine V_pb C hn [(.iload_n 2, 1)] (pc' := 16) (ls' := [(0, .ref (a0 0)), (1, .int p1), (2, .int p2)]) (st' := [.int p2]) (decB_ok (by decide +kernel)) rfl rfl ?_
    refine V_sw (0) ?_
    refine Sw_at C (dflt := 92) (lo := 0) (hi := 4) (offs := #[36, 46, 56, 66, 86]) (len := 36) (off := 36) (v := (0 : Int32)) (tgt := 52) (by decide +kernel) (by decide) (by decide) (by decide) rfl (by decide) h (fun _ h => ?_) (fun _ h => ?_)
    · refine V_pb C hn [(.aload_n 0, 1)] (pc' := 53) (ls' := [(0, .ref (a0 0)), (1, .int p1), (2, .int p2)]) (st' := [.ref (a0 0)]) (decB_ok (by decide +kernel)) rfl rfl ?_
      refine V_get C (v := .ref (a0 4)) (by decide +kernel) 0 0 fk_RX4_12 rfl rfl ?_
      refine V_get C (v := .ref (a0 5)) (by decide +kernel) 4 2 fk_RX4_113 rfl rfl ?_
      refine V_pb C hn [(.iload_n 1, 1)] (pc' := 60) (ls' := [(0, .ref (a0 0)), (1, .int p1), (2, .int p2)]) (st' := [.int p1, .ref (a0 5)]) (decB_ok (by decide +kernel)) rfl rfl ?_
      refine V_iald C (f := (h_kindOf (x_now S0))) (by decide +kernel) 5 rfl h (fun h => ?_)
      have h := Option.some.inj h
      subst h
      exact V_iret C (by decide +kernel) rfl
    refine Sw_at C (dflt := 92) (lo := 0) (hi := 4) (offs := #[36, 46, 56, 66, 86]) (len := 36) (off := 46) (v := (1 : Int32)) (tgt := 62) (by decide +kernel) (by decide) (by decide) (by decide) rfl (by decide) h (fun _ h => ?_) (fun _ h => ?_)
    · refine V_pb C hn [(.aload_n 0, 1)] (pc' := 63) (ls' := [(0, .ref (a0 0)), (1, .int p1), (2, .int p2)]) (st' := [.ref (a0 0)]) (decB_ok (by decide +kernel)) rfl rfl ?_
      refine V_get C (v := .ref (a0 4)) (by decide +kernel) 0 0 fk_RX4_12 rfl rfl ?_
      refine V_get C (v := .ref (a0 6)) (by decide +kernel) 4 3 fk_RX4_119 rfl rfl ?_
      refine V_pb C hn [(.iload_n 1, 1)] (pc' := 70) (ls' := [(0, .ref (a0 0)), (1, .int p1), (2, .int p2)]) (st' := [.int p1, .ref (a0 6)]) (decB_ok (by decide +kernel)) rfl rfl ?_
      refine V_iald C (f := (h_weightOf (x_now S0))) (by decide +kernel) 6 rfl h (fun h => ?_)
      have h := Option.some.inj h
      subst h
      exact V_iret C (by decide +kernel) rfl
    refine Sw_at C (dflt := 92) (lo := 0) (hi := 4) (offs := #[36, 46, 56, 66, 86]) (len := 36) (off := 56) (v := (2 : Int32)) (tgt := 72) (by decide +kernel) (by decide) (by decide) (by decide) rfl (by decide) h (fun _ h => ?_) (fun _ h => ?_)
    · refine V_pb C hn [(.aload_n 0, 1)] (pc' := 73) (ls' := [(0, .ref (a0 0)), (1, .int p1), (2, .int p2)]) (st' := [.ref (a0 0)]) (decB_ok (by decide +kernel)) rfl rfl ?_
      refine V_get C (v := .ref (a0 4)) (by decide +kernel) 0 0 fk_RX4_12 rfl rfl ?_
      refine V_get C (v := .ref (a0 7)) (by decide +kernel) 4 4 fk_RX4_122 rfl rfl ?_
      refine V_pb C hn [(.iload_n 1, 1)] (pc' := 80) (ls' := [(0, .ref (a0 0)), (1, .int p1), (2, .int p2)]) (st' := [.int p1, .ref (a0 7)]) (decB_ok (by decide +kernel)) rfl rfl ?_
      refine V_iald C (f := (h_cellOf (x_now S0))) (by decide +kernel) 7 rfl h (fun h => ?_)
      have h := Option.some.inj h
      subst h
      exact V_iret C (by decide +kernel) rfl
    refine Sw_at C (dflt := 92) (lo := 0) (hi := 4) (offs := #[36, 46, 56, 66, 86]) (len := 36) (off := 66) (v := (3 : Int32)) (tgt := 82) (by decide +kernel) (by decide) (by decide) (by decide) rfl (by decide) h (fun _ h => ?_) (fun _ h => ?_)
    · refine V_pb C hn [(.aload_n 0, 1)] (pc' := 83) (ls' := [(0, .ref (a0 0)), (1, .int p1), (2, .int p2)]) (st' := [.ref (a0 0)]) (decB_ok (by decide +kernel)) rfl rfl ?_
      refine V_get C (v := .ref (a0 4)) (by decide +kernel) 0 0 fk_RX4_12 rfl rfl ?_
      refine V_pb C hn [(.aload_n 0, 1)] (pc' := 87) (ls' := [(0, .ref (a0 0)), (1, .int p1), (2, .int p2)]) (st' := [.ref (a0 0), .ref (a0 4)]) (decB_ok (by decide +kernel)) rfl rfl ?_
      refine V_get C (v := .ref (a0 4)) (by decide +kernel) 0 0 fk_RX4_12 rfl rfl ?_
      refine V_get C (v := .ref (a0 7)) (by decide +kernel) 4 4 fk_RX4_122 rfl rfl ?_
      refine V_pb C hn [(.iload_n 1, 1)] (pc' := 94) (ls' := [(0, .ref (a0 0)), (1, .int p1), (2, .int p2)]) (st' := [.int p1, .ref (a0 7), .ref (a0 4)]) (decB_ok (by decide +kernel)) rfl rfl ?_
      refine V_iald C (f := (h_cellOf (x_now S0))) (by decide +kernel) 7 rfl h (fun h => ?_)
      obtain ⟨q5, h6, h⟩ := bnd h
      refine V_callVp C (As := [.int ((h_cellOf (x_now S0)) (ix p1))]) (rest := []) (by decide +kernel) ok_yX1_isLit mk_RX4_181 (cfX1_isLit (l := E.l) (G := E.G) (fun j => a0 (4 + j)) h6) [4, 5, 6, 7] (q0 := 0) rfl rfl rfl rfl rfl rfl rfl (Nat.le_of_ble_eq_true rfl) (Nat.le_of_ble_eq_true rfl) (Nat.le_of_ble_eq_true rfl) ?_
      show V E _ (wdX E.G a0 S0) 98 [(0, .ref (a0 0)), (1, .int p1), (2, .int p2)] [.int q5]
      obtain ⟨q7, h8, h⟩ := bnd h
      refine V_callSp C (As := [.int q5]) (rest := []) (by decide +kernel) ok_yX4_bit mk_RX4_184 (cfX4_bit (l := E.l) (G := E.G) h8) [] rfl rfl rfl rfl (Nat.le_of_ble_eq_true rfl) (Nat.le_of_ble_eq_true rfl) (Nat.le_of_ble_eq_true rfl) ?_
      show V E _ (wdX E.G a0 S0) 101 [(0, .ref (a0 0)), (1, .int p1), (2, .int p2)] [.int q7]
      have h := Option.some.inj h
      subst h
      exact V_iret C (by decide +kernel) rfl
    refine Sw_at C (dflt := 92) (lo := 0) (hi := 4) (offs := #[36, 46, 56, 66, 86]) (len := 36) (off := 86) (v := (4 : Int32)) (tgt := 102) (by decide +kernel) (by decide) (by decide) (by decide) rfl (by decide) h (fun _ h => ?_) (fun _ h => ?_)
    · refine V_pb C hn [(.aload_n 0, 1), (.iload_n 1, 1)] (pc' := 104) (ls' := [(0, .ref (a0 0)), (1, .int p1), (2, .int p2)]) (st' := [.int p1, .ref (a0 0)]) (decB_ok (by decide +kernel)) rfl rfl ?_
      obtain ⟨q9, h10, h⟩ := bnd h
      refine V_callV0 C (As := [.int p1]) (rest := []) (by decide +kernel) ok_yX4_power mk_RX4_188 (cfX4_power (l := E.l) (G := E.G) a0 h10) (q0 := 0) rfl rfl rfl rfl rfl rfl (Nat.le_of_ble_eq_true rfl) (Nat.le_of_ble_eq_true rfl) (Nat.le_of_ble_eq_true rfl) ?_
      show V E _ (wdX E.G a0 q9.2) 107 [(0, .ref (a0 0)), (1, .int p1), (2, .int p2)] [.int q9.1]
      have h := Option.some.inj h
      subst h
      exact V_iret C (by decide +kernel) rfl
    refine Sw_end C (dflt := 92) (lo := 0) (hi := 4) (offs := #[36, 46, 56, 66, 86]) (len := 36) (tgt := 108) (by decide +kernel) (by decide) (by decide) ?_
    refine V_pb C hn [(.aload_n 0, 1), (.bipush (-2), 2)] (pc' := 111) (ls' := [(0, .ref (a0 0)), (1, .int p1), (2, .int p2)]) (st' := [.int (cI (-2)), .ref (a0 0)]) (decB_ok (by decide +kernel)) rfl rfl ?_
    obtain ⟨q11, h12, h⟩ := bnd h
    refine V_callV0 C (As := [.int (cI (-2))]) (rest := []) (by decide +kernel) ok_yX4_refuse mk_RX4_57 (cfX4_refuse (l := E.l) (G := E.G) a0 h12) (q0 := 0) rfl rfl rfl rfl rfl rfl (Nat.le_of_ble_eq_true rfl) (Nat.le_of_ble_eq_true rfl) (Nat.le_of_ble_eq_true rfl) ?_
    show V E _ (wdX E.G a0 q11.2) 114 [(0, .ref (a0 0)), (1, .int p1), (2, .int p2)] [.int q11.1]
    have h := Option.some.inj h
    subst h
    exact V_iret C (by decide +kernel) rfl
set_option maxRecDepth 100000 in
set_option maxHeartbeats 400000 in
theorem cfX4_lit_j22 {E : VE} (C : Ctx E cX4_lit RX4 3 (some .int)) (hn : E.nL = 3) {a0 : Nat → Nat} {p1 : Int32} {p2 : Int32} {S0 : XT} {out : Int32 × XT} (h : fX4_lit_j22 p1 p2 S0 = some out) : V E (QR E (some (.int out.1)) (wdX E.G a0 out.2)) (wdX E.G a0 S0) 22 [(0, .ref (a0 0))] [] := by
  unfold fX4_lit_j22 at h
  refine V_pb C hn [(.aload_n 0, 1), (.bipush (-2), 2)] (pc' := 25) (ls' := [(0, .ref (a0 0))]) (st' := [.int (cI (-2)), .ref (a0 0)]) (decB_ok (by decide +kernel)) rfl rfl ?_
  obtain ⟨q3, h4, h⟩ := bnd h
  refine V_callV0 C (As := [.int (cI (-2))]) (rest := []) (by decide +kernel) ok_yX4_refuse mk_RX4_57 (cfX4_refuse (l := E.l) (G := E.G) a0 h4) (q0 := 0) rfl rfl rfl rfl rfl rfl (Nat.le_of_ble_eq_true rfl) (Nat.le_of_ble_eq_true rfl) (Nat.le_of_ble_eq_true rfl) ?_
  show V E _ (wdX E.G a0 q3.2) 28 [(0, .ref (a0 0))] [.int q3.1]
  have h := Option.some.inj h
  subst h
  exact V_iret C (by decide +kernel) rfl
set_option maxRecDepth 100000 in
set_option maxHeartbeats 400000 in
theorem cfX4_lit {l : Launch} {G : GG} (a0 : Nat → Nat) {p1 : Int32} {p2 : Int32} {S0 : XT} {out : Int32 × XT} (h : fX4_lit p1 p2 S0 = some out) : Con l G 3 yX4_lit cX4_lit 3 (some .int) [.ref (a0 0), .int p1, .int p2] (wdX G a0 S0) (some (.int out.1)) (wdX G a0 out.2) := by
  refine Con_of (by decide +kernel) (Nat.le_of_ble_eq_true rfl) (fun E hl hG hn C => ?_)
  subst hl
  subst hG
  have C : Ctx E cX4_lit RX4 3 (some .int) := C
  show V E _ _ 0 [(0, .ref (a0 0)), (1, .int p1), (2, .int p2)] []
  unfold fX4_lit at h
  refine V_pb C hn [(.aload_n 0, 1)] (pc' := 1) (ls' := [(0, .ref (a0 0)), (1, .int p1), (2, .int p2)]) (st' := [.ref (a0 0)]) (decB_ok (by decide +kernel)) rfl rfl ?_
  refine V_get C (v := .ref (a0 4)) (by decide +kernel) 0 0 fk_RX4_12 rfl rfl ?_
  refine V_pb C hn [(.iload_n 1, 1)] (pc' := 5) (ls' := [(0, .ref (a0 0)), (1, .int p1), (2, .int p2)]) (st' := [.int p1, .ref (a0 4)]) (decB_ok (by decide +kernel)) rfl rfl ?_
  obtain ⟨q1, h2, h⟩ := bnd h
  refine V_callVp C (As := [.int p1]) (rest := []) (by decide +kernel) ok_yX1_isCell mk_RX4_135 (cfX1_isCell (l := E.l) (G := E.G) (fun j => a0 (4 + j)) h2) [4, 5, 6, 7] (q0 := 0) rfl rfl rfl rfl rfl rfl rfl (Nat.le_of_ble_eq_true rfl) (Nat.le_of_ble_eq_true rfl) (Nat.le_of_ble_eq_true rfl) ?_
  show V E _ (wdX E.G a0 S0) 8 [(0, .ref (a0 0)), (1, .int p1), (2, .int p2)] [.int q1]
  refine V_if_eq C (off := 14) (tgt := 22) (by decide +kernel) (by decide) h (fun _ h => ?_) (fun _ h => ?_)
  · refine V_sub (ls' := [(0, .ref (a0 0))]) rfl ?_
    exact cfX4_lit_j22 C hn h
  · refine V_pb C hn [(.iload_n 2, 1)] (pc' := 12) (ls' := [(0, .ref (a0 0)), (1, .int p1), (2, .int p2)]) (st' := [.int p2]) (decB_ok (by decide +kernel)) rfl rfl ?_
    refine V_if_lt C (off := 10) (tgt := 22) (by decide +kernel) (by decide) h (fun _ h => ?_) (fun _ h => ?_)
    · refine V_sub (ls' := [(0, .ref (a0 0))]) rfl ?_
      exact cfX4_lit_j22 C hn h
    · refine V_pb C hn [(.iload_n 2, 1), (.sipush 999, 3)] (pc' := 19) (ls' := [(0, .ref (a0 0)), (1, .int p1), (2, .int p2)]) (st' := [.int (999 : Int32), .int p2]) (decB_ok (by decide +kernel)) rfl rfl ?_
      refine V_ic_le C (off := 10) (tgt := 29) (by decide +kernel) (by decide) h (fun _ h => ?_) (fun _ h => ?_)
      · refine V_pb C hn [(.aload_n 0, 1)] (pc' := 30) (ls' := [(0, .ref (a0 0)), (1, .int p1), (2, .int p2)]) (st' := [.ref (a0 0)]) (decB_ok (by decide +kernel)) rfl rfl ?_
        refine V_get C (v := .ref (a0 12)) (by decide +kernel) 0 2 fk_RX4_19 rfl rfl ?_
        refine V_pb C hn [(.aload_n 0, 1)] (pc' := 34) (ls' := [(0, .ref (a0 0)), (1, .int p1), (2, .int p2)]) (st' := [.ref (a0 0), .ref (a0 12)]) (decB_ok (by decide +kernel)) rfl rfl ?_
        refine V_get C (v := .ref (a0 4)) (by decide +kernel) 0 0 fk_RX4_12 rfl rfl ?_
        obtain ⟨q5, h6, h⟩ := bnd h
        refine V_callV (ws' := wdX E.G a0 (xs_trial S0 q5)) C (As := [.ref (a0 4)]) (rest := []) (by decide +kernel) ok_yX1_takeOver mk_RX4_170 (cfX1_takeOver (l := E.l) (G := E.G) (fun j => a0 (12 + j)) (fun j => a0 (4 + j)) h6) [12, 13, 14, 15, 4, 5, 6, 7] (q0 := 0) rfl rfl rfl rfl rfl rfl rfl rfl rfl (Nat.le_of_ble_eq_true rfl) (Nat.le_of_ble_eq_true rfl) (Nat.le_of_ble_eq_true rfl) ?_
        show V E _ (wdX E.G a0 (xs_trial S0 q5)) 40 [(0, .ref (a0 0)), (1, .int p1), (2, .int p2)] []
        refine V_pb C hn [(.aload_n 0, 1)] (pc' := 41) (ls' := [(0, .ref (a0 0)), (1, .int p1), (2, .int p2)]) (st' := [.ref (a0 0)]) (decB_ok (by decide +kernel)) rfl rfl ?_
        refine V_get C (v := .ref (a0 12)) (by decide +kernel) 0 2 fk_RX4_19 rfl rfl ?_
        refine V_pb C hn [(.iload_n 2, 1)] (pc' := 45) (ls' := [(0, .ref (a0 0)), (1, .int p1), (2, .int p2)]) (st' := [.int p2, .ref (a0 12)]) (decB_ok (by decide +kernel)) rfl rfl ?_
        refine V_put C (v := .int p2) (ws' := wdX E.G a0 (xs_trial S0 (hs_hour q5 p2))) (by decide +kernel) 12 8 pk_RX4_191 rfl rfl rfl (Nat.le_of_ble_eq_true rfl) rfl ?_
        refine V_pb C hn [(.aload_n 0, 1)] (pc' := 49) (ls' := [(0, .ref (a0 0)), (1, .int p1), (2, .int p2)]) (st' := [.ref (a0 0)]) (decB_ok (by decide +kernel)) rfl rfl ?_
        refine V_get C (v := .ref (a0 12)) (by decide +kernel) 0 2 fk_RX4_19 rfl rfl ?_
        refine V_pb C hn [(.iload_n 1, 1)] (pc' := 53) (ls' := [(0, .ref (a0 0)), (1, .int p1), (2, .int p2)]) (st' := [.int p1, .ref (a0 12)]) (decB_ok (by decide +kernel)) rfl rfl ?_
        obtain ⟨q7, h8, h⟩ := bnd h
        refine V_callVp C (As := [.int p1]) (rest := []) (by decide +kernel) ok_yX1_isLit mk_RX4_181 (cfX1_isLit (l := E.l) (G := E.G) (fun j => a0 (12 + j)) h8) [12, 13, 14, 15] (q0 := 0) rfl rfl rfl rfl rfl rfl rfl (Nat.le_of_ble_eq_true rfl) (Nat.le_of_ble_eq_true rfl) (Nat.le_of_ble_eq_true rfl) ?_
        show V E _ (wdX E.G a0 (xs_trial S0 (hs_hour q5 p2))) 56 [(0, .ref (a0 0)), (1, .int p1), (2, .int p2)] [.int q7]
        obtain ⟨q9, h10, h⟩ := bnd h
        refine V_callSp C (As := [.int q7]) (rest := []) (by decide +kernel) ok_yX4_bit mk_RX4_184 (cfX4_bit (l := E.l) (G := E.G) h10) [] rfl rfl rfl rfl (Nat.le_of_ble_eq_true rfl) (Nat.le_of_ble_eq_true rfl) (Nat.le_of_ble_eq_true rfl) ?_
        show V E _ (wdX E.G a0 (xs_trial S0 (hs_hour q5 p2))) 59 [(0, .ref (a0 0)), (1, .int p1), (2, .int p2)] [.int q9]
        have h := Option.some.inj h
        subst h
        exact V_iret C (by decide +kernel) rfl
      · refine V_sub (ls' := [(0, .ref (a0 0))]) rfl ?_
        exact cfX4_lit_j22 C hn h
set_option maxRecDepth 100000 in
set_option maxHeartbeats 400000 in
theorem cfX4_first_j9 {E : VE} (C : Ctx E cX4_first RX4 3 (some .int)) (hn : E.nL = 6) {a0 : Nat → Nat} {p1 : Int32} {S0 : XT} {out : Int32 × XT} (h : fX4_first_j9 p1 S0 = some out) : V E (QR E (some (.int out.1)) (wdX E.G a0 out.2)) (wdX E.G a0 S0) 9 [(0, .ref (a0 0))] [] := by
  unfold fX4_first_j9 at h
  refine V_pb C hn [(.aload_n 0, 1), (.bipush (-2), 2)] (pc' := 12) (ls' := [(0, .ref (a0 0))]) (st' := [.int (cI (-2)), .ref (a0 0)]) (decB_ok (by decide +kernel)) rfl rfl ?_
  obtain ⟨q1, h2, h⟩ := bnd h
  refine V_callV0 C (As := [.int (cI (-2))]) (rest := []) (by decide +kernel) ok_yX4_refuse mk_RX4_57 (cfX4_refuse (l := E.l) (G := E.G) a0 h2) (q0 := 0) rfl rfl rfl rfl rfl rfl (Nat.le_of_ble_eq_true rfl) (Nat.le_of_ble_eq_true rfl) (Nat.le_of_ble_eq_true rfl) ?_
  show V E _ (wdX E.G a0 q1.2) 15 [(0, .ref (a0 0))] [.int q1.1]
  have h := Option.some.inj h
  subst h
  exact V_iret C (by decide +kernel) rfl
set_option maxRecDepth 100000 in
set_option maxHeartbeats 400000 in
theorem cfX4_first_j89 {E : VE} (C : Ctx E cX4_first RX4 3 (some .int)) (hn : E.nL = 6) {a0 : Nat → Nat} {p1 : Int32} {v2 : Int32} {v3 : Int32} {v4 : Int32} {S0 : XT} {out : Int32 × XT} {k40 : Int32 → Int32 → Int32 → XT → Option (Int32 × XT)} (hk40 : ∀ (v2 : Int32) (v3 : Int32) (v4 : Int32) (S0 : XT), k40 v2 v3 v4 S0 = some out → V E (QR E (some (.int out.1)) (wdX E.G a0 out.2)) (wdX E.G a0 S0) 40 [(0, .ref (a0 0)), (1, .int p1), (2, .int v2), (3, .int v3), (4, .int v4)] []) (h : fX4_first_j89 k40 p1 v2 v3 v4 S0 = some out) : V E (QR E (some (.int out.1)) (wdX E.G a0 out.2)) (wdX E.G a0 S0) 89 [(0, .ref (a0 0)), (1, .int p1), (2, .int v2), (3, .int v3), (4, .int v4)] [] := by
  unfold fX4_first_j89 at h
  refine V_pb C hn [(.iinc 4 1, 3)] (pc' := 92) (ls' := [(0, .ref (a0 0)), (1, .int p1), (2, .int v2), (3, .int v3), (4, .int (v4 + (1 : Int32)))]) (st' := []) (decB_ok (by decide +kernel)) rfl rfl ?_
  refine V_goto C (off := -52) (tgt := 40) (by decide +kernel) (by decide) ?_
  refine V_sub (ls' := [(0, .ref (a0 0)), (1, .int p1), (2, .int v2), (3, .int v3), (4, .int (v4 + (1 : Int32)))]) rfl ?_
  exact hk40 _ _ _ _ h
set_option maxRecDepth 100000 in
set_option maxHeartbeats 400000 in
theorem cfX4_first_j75 {E : VE} (C : Ctx E cX4_first RX4 3 (some .int)) (hn : E.nL = 6) {a0 : Nat → Nat} {p1 : Int32} {v2 : Int32} {v3 : Int32} {v4 : Int32} {s0 : Int32} {S0 : XT} {out : Int32 × XT} {k40 : Int32 → Int32 → Int32 → XT → Option (Int32 × XT)} (hk40 : ∀ (v2 : Int32) (v3 : Int32) (v4 : Int32) (S0 : XT), k40 v2 v3 v4 S0 = some out → V E (QR E (some (.int out.1)) (wdX E.G a0 out.2)) (wdX E.G a0 S0) 40 [(0, .ref (a0 0)), (1, .int p1), (2, .int v2), (3, .int v3), (4, .int v4)] []) (h : fX4_first_j75 k40 p1 v2 v3 v4 s0 S0 = some out) : V E (QR E (some (.int out.1)) (wdX E.G a0 out.2)) (wdX E.G a0 S0) 75 [(0, .ref (a0 0)), (1, .int p1), (2, .int v2), (3, .int v3), (4, .int v4)] [.int s0] := by
  unfold fX4_first_j75 at h
  refine V_pb C hn [(.istore 5, 2), (.iload 5, 2), (.iload_n 3, 1)] (pc' := 80) (ls' := [(0, .ref (a0 0)), (1, .int p1), (2, .int v2), (3, .int v3), (4, .int v4), (5, .int s0)]) (st' := [.int v3, .int s0]) (decB_ok (by decide +kernel)) rfl rfl ?_
  refine V_ic_le C (off := 9) (tgt := 89) (by decide +kernel) (by decide) h (fun _ h => ?_) (fun _ h => ?_)
  · refine V_sub (ls' := [(0, .ref (a0 0)), (1, .int p1), (2, .int v2), (3, .int v3), (4, .int v4)]) rfl ?_
    exact cfX4_first_j89 C hn (k40 := k40) (hk40) h
  · refine V_pb C hn [(.iload 5, 2), (.istore_n 3, 1), (.iload 4, 2), (.istore_n 2, 1)] (pc' := 89) (ls' := [(0, .ref (a0 0)), (1, .int p1), (2, .int v4), (3, .int s0), (4, .int v4), (5, .int s0)]) (st' := []) (decB_ok (by decide +kernel)) rfl rfl ?_
    refine V_sub (ls' := [(0, .ref (a0 0)), (1, .int p1), (2, .int v4), (3, .int s0), (4, .int v4)]) rfl ?_
    exact cfX4_first_j89 C hn (k40 := k40) (hk40) h
set_option maxRecDepth 100000 in
set_option maxHeartbeats 400000 in
theorem cfX4_first_L40 {E : VE} (C : Ctx E cX4_first RX4 3 (some .int)) (hn : E.nL = 6) {a0 : Nat → Nat} {p1 : Int32} {out : Int32 × XT} : ∀ (n : Nat) (v2 : Int32) (v3 : Int32) (v4 : Int32) (S0 : XT), fX4_first_L40 p1 n v2 v3 v4 S0 = some out → V E (QR E (some (.int out.1)) (wdX E.G a0 out.2)) (wdX E.G a0 S0) 40 [(0, .ref (a0 0)), (1, .int p1), (2, .int v2), (3, .int v3), (4, .int v4)] [] := by
  intro n
  induction n with
  | zero =>
    intro v2 v3 v4 S0 h
    cases h
  | succ n ih =>
    intro v2 v3 v4 S0 h
    unfold fX4_first_L40 at h
    refine V_pb C hn [(.iload 4, 2), (.aload_n 0, 1)] (pc' := 43) (ls' := [(0, .ref (a0 0)), (1, .int p1), (2, .int v2), (3, .int v3), (4, .int v4)]) (st' := [.ref (a0 0), .int v4]) (decB_ok (by decide +kernel)) rfl rfl ?_
    refine V_get C (v := .ref (a0 4)) (by decide +kernel) 0 0 fk_RX4_12 rfl rfl ?_
    refine V_get C (v := .int (h_count (x_now S0))) (by decide +kernel) 4 1 fk_RX4_146 rfl rfl ?_
    refine V_ic_ge C (off := 46) (tgt := 95) (by decide +kernel) (by decide) h (fun _ h => ?_) (fun _ h => ?_)
    · refine V_pb C hn [(.iload_n 2, 1)] (pc' := 96) (ls' := [(0, .ref (a0 0)), (1, .int p1), (2, .int v2), (3, .int v3), (4, .int v4)]) (st' := [.int v2]) (decB_ok (by decide +kernel)) rfl rfl ?_
      have h := Option.some.inj h
      subst h
      exact V_iret C (by decide +kernel) rfl
    · refine V_pb C hn [(.iload_n 1, 1)] (pc' := 53) (ls' := [(0, .ref (a0 0)), (1, .int p1), (2, .int v2), (3, .int v3), (4, .int v4)]) (st' := [.int p1]) (decB_ok (by decide +kernel)) rfl rfl ?_
      refine V_if_ne C (off := 12) (tgt := 65) (by decide +kernel) (by decide) h (fun _ h => ?_) (fun _ h => ?_)
      · refine V_pb C hn [(.aload_n 0, 1), (.iload 4, 2)] (pc' := 59) (ls' := [(0, .ref (a0 0)), (1, .int p1), (2, .int v2), (3, .int v3), (4, .int v4)]) (st' := [.int v4, .ref (a0 0)]) (decB_ok (by decide +kernel)) rfl rfl ?_
        obtain ⟨q5, h6, h⟩ := bnd h
        refine V_callV0 C (As := [.int v4]) (rest := []) (by decide +kernel) ok_yX4_power mk_RX4_188 (cfX4_power (l := E.l) (G := E.G) a0 h6) (q0 := 0) rfl rfl rfl rfl rfl rfl (Nat.le_of_ble_eq_true rfl) (Nat.le_of_ble_eq_true rfl) (Nat.le_of_ble_eq_true rfl) ?_
        show V E _ (wdX E.G a0 q5.2) 62 [(0, .ref (a0 0)), (1, .int p1), (2, .int v2), (3, .int v3), (4, .int v4)] [.int q5.1]
        refine V_goto C (off := 13) (tgt := 75) (by decide +kernel) (by decide) ?_
        refine V_sub (ls' := [(0, .ref (a0 0)), (1, .int p1), (2, .int v2), (3, .int v3), (4, .int v4)]) rfl ?_
        exact cfX4_first_j75 C hn (k40 := (fun v2 v3 v4 S0 => fX4_first_L40 p1 n v2 v3 v4 S0)) (fun v2 v3 v4 S0 h => ih v2 v3 v4 S0 h) h
      · refine V_pb C hn [(.aload_n 0, 1)] (pc' := 66) (ls' := [(0, .ref (a0 0)), (1, .int p1), (2, .int v2), (3, .int v3), (4, .int v4)]) (st' := [.ref (a0 0)]) (decB_ok (by decide +kernel)) rfl rfl ?_
        refine V_get C (v := .ref (a0 4)) (by decide +kernel) 0 0 fk_RX4_12 rfl rfl ?_
        refine V_get C (v := .ref (a0 6)) (by decide +kernel) 4 3 fk_RX4_119 rfl rfl ?_
        refine V_pb C hn [(.iload 4, 2)] (pc' := 74) (ls' := [(0, .ref (a0 0)), (1, .int p1), (2, .int v2), (3, .int v3), (4, .int v4)]) (st' := [.int v4, .ref (a0 6)]) (decB_ok (by decide +kernel)) rfl rfl ?_
        refine V_iald C (f := (h_weightOf (x_now S0))) (by decide +kernel) 6 rfl h (fun h => ?_)
        refine V_sub (ls' := [(0, .ref (a0 0)), (1, .int p1), (2, .int v2), (3, .int v3), (4, .int v4)]) rfl ?_
        exact cfX4_first_j75 C hn (k40 := (fun v2 v3 v4 S0 => fX4_first_L40 p1 n v2 v3 v4 S0)) (fun v2 v3 v4 S0 h => ih v2 v3 v4 S0 h) h
set_option maxRecDepth 100000 in
set_option maxHeartbeats 400000 in
theorem cfX4_first {l : Launch} {G : GG} (a0 : Nat → Nat) {p1 : Int32} {S0 : XT} {out : Int32 × XT} (h : fX4_first p1 S0 = some out) : Con l G 3 yX4_first cX4_first 6 (some .int) [.ref (a0 0), .int p1] (wdX G a0 S0) (some (.int out.1)) (wdX G a0 out.2) := by
  refine Con_of (by decide +kernel) (Nat.le_of_ble_eq_true rfl) (fun E hl hG hn C => ?_)
  subst hl
  subst hG
  have C : Ctx E cX4_first RX4 3 (some .int) := C
  show V E _ _ 0 [(0, .ref (a0 0)), (1, .int p1)] []
  unfold fX4_first at h
  refine V_pb C hn [(.iload_n 1, 1)] (pc' := 1) (ls' := [(0, .ref (a0 0)), (1, .int p1)]) (st' := [.int p1]) (decB_ok (by decide +kernel)) rfl rfl ?_
  refine V_if_lt C (off := 8) (tgt := 9) (by decide +kernel) (by decide) h (fun _ h => ?_) (fun _ h => ?_)
  · refine V_sub (ls' := [(0, .ref (a0 0))]) rfl ?_
    exact cfX4_first_j9 C hn h
  · refine V_pb C hn [(.iload_n 1, 1), (.iconst 1, 1)] (pc' := 6) (ls' := [(0, .ref (a0 0)), (1, .int p1)]) (st' := [.int (1 : Int32), .int p1]) (decB_ok (by decide +kernel)) rfl rfl ?_
    refine V_ic_le C (off := 10) (tgt := 16) (by decide +kernel) (by decide) h (fun _ h => ?_) (fun _ h => ?_)
    · refine V_pb C hn [(.aload_n 0, 1)] (pc' := 17) (ls' := [(0, .ref (a0 0)), (1, .int p1)]) (st' := [.ref (a0 0)]) (decB_ok (by decide +kernel)) rfl rfl ?_
      refine V_get C (v := .ref (a0 4)) (by decide +kernel) 0 0 fk_RX4_12 rfl rfl ?_
      refine V_get C (v := .int (h_count (x_now S0))) (by decide +kernel) 4 1 fk_RX4_146 rfl rfl ?_
      refine V_if_ne C (off := 10) (tgt := 33) (by decide +kernel) (by decide) h (fun _ h => ?_) (fun _ h => ?_)
      · refine V_pb C hn [(.aload_n 0, 1), (.bipush (-5), 2)] (pc' := 29) (ls' := [(0, .ref (a0 0)), (1, .int p1)]) (st' := [.int (cI (-5)), .ref (a0 0)]) (decB_ok (by decide +kernel)) rfl rfl ?_
        obtain ⟨q3, h4, h⟩ := bnd h
        refine V_callV0 C (As := [.int (cI (-5))]) (rest := []) (by decide +kernel) ok_yX4_refuse mk_RX4_57 (cfX4_refuse (l := E.l) (G := E.G) a0 h4) (q0 := 0) rfl rfl rfl rfl rfl rfl (Nat.le_of_ble_eq_true rfl) (Nat.le_of_ble_eq_true rfl) (Nat.le_of_ble_eq_true rfl) ?_
        show V E _ (wdX E.G a0 q3.2) 32 [(0, .ref (a0 0)), (1, .int p1)] [.int q3.1]
        have h := Option.some.inj h
        subst h
        exact V_iret C (by decide +kernel) rfl
      · refine V_pb C hn [(.iconst 0, 1), (.istore_n 2, 1), (.iconst (-1), 1), (.istore_n 3, 1), (.iconst 0, 1), (.istore 4, 2)] (pc' := 40) (ls' := [(0, .ref (a0 0)), (1, .int p1), (2, .int (0 : Int32)), (3, .int (cI (-1))), (4, .int (0 : Int32))]) (st' := []) (decB_ok (by decide +kernel)) rfl rfl ?_
        refine V_sub (ls' := [(0, .ref (a0 0)), (1, .int p1), (2, .int (0 : Int32)), (3, .int (cI (-1))), (4, .int (0 : Int32))]) rfl ?_
        exact cfX4_first_L40 C hn FU _ _ _ _ h
    · refine V_sub (ls' := [(0, .ref (a0 0))]) rfl ?_
      exact cfX4_first_j9 C hn h
set_option maxRecDepth 100000 in
set_option maxHeartbeats 400000 in
theorem cfX4_ofKind_j48 {E : VE} (C : Ctx E cX4_ofKind RX4 1 (some .int)) (hn : E.nL = 4) {a0 : Nat → Nat} {p1 : Int32} {v3 : Int32} {s0 : Int32} {s1 : Int32} {S0 : XT} {out : Int32 × XT} {k18 : Int32 → Int32 → XT → Option (Int32 × XT)} (hk18 : ∀ (v2 : Int32) (v3 : Int32) (S0 : XT), k18 v2 v3 S0 = some out → V E (QR E (some (.int out.1)) (wdX E.G a0 out.2)) (wdX E.G a0 S0) 18 [(0, .ref (a0 0)), (1, .int p1), (2, .int v2), (3, .int v3)] []) (h : fX4_ofKind_j48 k18 p1 v3 s0 s1 S0 = some out) : V E (QR E (some (.int out.1)) (wdX E.G a0 out.2)) (wdX E.G a0 S0) 48 [(0, .ref (a0 0)), (1, .int p1), (3, .int v3)] [.int s0, .int s1] := by
  unfold fX4_ofKind_j48 at h
  obtain ⟨q5, h6, h⟩ := bnd h
  refine V_callSp C (As := [.int s0]) (rest := [.int s1]) (by decide +kernel) ok_yX4_bit mk_RX4_184 (cfX4_bit (l := E.l) (G := E.G) h6) [] rfl rfl rfl rfl (Nat.le_of_ble_eq_true rfl) (Nat.le_of_ble_eq_true rfl) (Nat.le_of_ble_eq_true rfl) ?_
  show V E _ (wdX E.G a0 S0) 51 [(0, .ref (a0 0)), (1, .int p1), (3, .int v3)] [.int q5, .int s1]
  refine V_pb C hn [(.iadd, 1), (.istore_n 2, 1), (.iinc 3 1, 3)] (pc' := 56) (ls' := [(0, .ref (a0 0)), (1, .int p1), (2, .int (s1 + q5)), (3, .int (v3 + (1 : Int32)))]) (st' := []) (decB_ok (by decide +kernel)) rfl rfl ?_
  refine V_goto C (off := -38) (tgt := 18) (by decide +kernel) (by decide) ?_
  refine V_sub (ls' := [(0, .ref (a0 0)), (1, .int p1), (2, .int (s1 + q5)), (3, .int (v3 + (1 : Int32)))]) rfl ?_
  exact hk18 _ _ _ h
set_option maxRecDepth 100000 in
set_option maxHeartbeats 400000 in
theorem cfX4_ofKind_L18 {E : VE} (C : Ctx E cX4_ofKind RX4 1 (some .int)) (hn : E.nL = 4) {a0 : Nat → Nat} {p1 : Int32} {out : Int32 × XT} : ∀ (n : Nat) (v2 : Int32) (v3 : Int32) (S0 : XT), fX4_ofKind_L18 p1 n v2 v3 S0 = some out → V E (QR E (some (.int out.1)) (wdX E.G a0 out.2)) (wdX E.G a0 S0) 18 [(0, .ref (a0 0)), (1, .int p1), (2, .int v2), (3, .int v3)] [] := by
  intro n
  induction n with
  | zero =>
    intro v2 v3 S0 h
    cases h
  | succ n ih =>
    intro v2 v3 S0 h
    unfold fX4_ofKind_L18 at h
    refine V_pb C hn [(.iload_n 3, 1), (.aload_n 0, 1)] (pc' := 20) (ls' := [(0, .ref (a0 0)), (1, .int p1), (2, .int v2), (3, .int v3)]) (st' := [.ref (a0 0), .int v3]) (decB_ok (by decide +kernel)) rfl rfl ?_
    refine V_get C (v := .ref (a0 4)) (by decide +kernel) 0 0 fk_RX4_12 rfl rfl ?_
    refine V_get C (v := .int (h_count (x_now S0))) (by decide +kernel) 4 1 fk_RX4_146 rfl rfl ?_
    refine V_ic_ge C (off := 33) (tgt := 59) (by decide +kernel) (by decide) h (fun _ h => ?_) (fun _ h => ?_)
    · refine V_pb C hn [(.iload_n 2, 1)] (pc' := 60) (ls' := [(0, .ref (a0 0)), (1, .int p1), (2, .int v2), (3, .int v3)]) (st' := [.int v2]) (decB_ok (by decide +kernel)) rfl rfl ?_
      have h := Option.some.inj h
      subst h
      exact V_iret C (by decide +kernel) rfl
    · refine V_pb C hn [(.iload_n 2, 1), (.aload_n 0, 1)] (pc' := 31) (ls' := [(0, .ref (a0 0)), (1, .int p1), (2, .int v2), (3, .int v3)]) (st' := [.ref (a0 0), .int v2]) (decB_ok (by decide +kernel)) rfl rfl ?_
      refine V_get C (v := .ref (a0 4)) (by decide +kernel) 0 0 fk_RX4_12 rfl rfl ?_
      refine V_get C (v := .ref (a0 5)) (by decide +kernel) 4 2 fk_RX4_113 rfl rfl ?_
      refine V_pb C hn [(.iload_n 3, 1)] (pc' := 38) (ls' := [(0, .ref (a0 0)), (1, .int p1), (2, .int v2), (3, .int v3)]) (st' := [.int v3, .ref (a0 5), .int v2]) (decB_ok (by decide +kernel)) rfl rfl ?_
      refine V_iald C (f := (h_kindOf (x_now S0))) (by decide +kernel) 5 rfl h (fun h => ?_)
      refine V_pb C hn [(.iload_n 1, 1)] (pc' := 40) (ls' := [(0, .ref (a0 0)), (1, .int p1), (2, .int v2), (3, .int v3)]) (st' := [.int p1, .int ((h_kindOf (x_now S0)) (ix v3)), .int v2]) (decB_ok (by decide +kernel)) rfl rfl ?_
      refine V_ic_ne C (off := 7) (tgt := 47) (by decide +kernel) (by decide) h (fun _ h => ?_) (fun _ h => ?_)
      · refine V_pb C hn [(.iconst 1, 1)] (pc' := 44) (ls' := [(0, .ref (a0 0)), (1, .int p1), (2, .int v2), (3, .int v3)]) (st' := [.int (1 : Int32), .int v2]) (decB_ok (by decide +kernel)) rfl rfl ?_
        refine V_goto C (off := 4) (tgt := 48) (by decide +kernel) (by decide) ?_
        refine V_sub (ls' := [(0, .ref (a0 0)), (1, .int p1), (3, .int v3)]) rfl ?_
        exact cfX4_ofKind_j48 C hn (k18 := (fun v2 v3 S0 => fX4_ofKind_L18 p1 n v2 v3 S0)) (fun v2 v3 S0 h => ih v2 v3 S0 h) h
      · refine V_pb C hn [(.iconst 0, 1)] (pc' := 48) (ls' := [(0, .ref (a0 0)), (1, .int p1), (2, .int v2), (3, .int v3)]) (st' := [.int (0 : Int32), .int v2]) (decB_ok (by decide +kernel)) rfl rfl ?_
        refine V_sub (ls' := [(0, .ref (a0 0)), (1, .int p1), (3, .int v3)]) rfl ?_
        exact cfX4_ofKind_j48 C hn (k18 := (fun v2 v3 S0 => fX4_ofKind_L18 p1 n v2 v3 S0)) (fun v2 v3 S0 h => ih v2 v3 S0 h) h
set_option maxRecDepth 100000 in
set_option maxHeartbeats 400000 in
theorem cfX4_ofKind {l : Launch} {G : GG} (a0 : Nat → Nat) {p1 : Int32} {S0 : XT} {out : Int32 × XT} (h : fX4_ofKind p1 S0 = some out) : Con l G 1 yX4_ofKind cX4_ofKind 4 (some .int) [.ref (a0 0), .int p1] (wdX G a0 S0) (some (.int out.1)) (wdX G a0 out.2) := by
  refine Con_of (by decide +kernel) (Nat.le_of_ble_eq_true rfl) (fun E hl hG hn C => ?_)
  subst hl
  subst hG
  have C : Ctx E cX4_ofKind RX4 1 (some .int) := C
  show V E _ _ 0 [(0, .ref (a0 0)), (1, .int p1)] []
  unfold fX4_ofKind at h
  refine V_pb C hn [(.iload_n 1, 1)] (pc' := 1) (ls' := [(0, .ref (a0 0)), (1, .int p1)]) (st' := [.int p1]) (decB_ok (by decide +kernel)) rfl rfl ?_
  obtain ⟨q1, h2, h⟩ := bnd h
  refine V_callSp C (As := [.int p1]) (rest := []) (by decide +kernel) ok_yX4_isKind mk_RX4_110 (cfX4_isKind (l := E.l) (G := E.G) h2) [] rfl rfl rfl rfl (Nat.le_of_ble_eq_true rfl) (Nat.le_of_ble_eq_true rfl) (Nat.le_of_ble_eq_true rfl) ?_
  show V E _ (wdX E.G a0 S0) 4 [(0, .ref (a0 0)), (1, .int p1)] [.int q1]
  refine V_if_ne C (off := 10) (tgt := 14) (by decide +kernel) (by decide) h (fun _ h => ?_) (fun _ h => ?_)
  · refine V_pb C hn [(.aload_n 0, 1), (.bipush (-2), 2)] (pc' := 10) (ls' := [(0, .ref (a0 0)), (1, .int p1)]) (st' := [.int (cI (-2)), .ref (a0 0)]) (decB_ok (by decide +kernel)) rfl rfl ?_
    obtain ⟨q3, h4, h⟩ := bnd h
    refine V_callV0 C (As := [.int (cI (-2))]) (rest := []) (by decide +kernel) ok_yX4_refuse mk_RX4_57 (cfX4_refuse (l := E.l) (G := E.G) a0 h4) (q0 := 0) rfl rfl rfl rfl rfl rfl (Nat.le_of_ble_eq_true rfl) (Nat.le_of_ble_eq_true rfl) (Nat.le_of_ble_eq_true rfl) ?_
    show V E _ (wdX E.G a0 q3.2) 13 [(0, .ref (a0 0)), (1, .int p1)] [.int q3.1]
    have h := Option.some.inj h
    subst h
    exact V_iret C (by decide +kernel) rfl
  · refine V_pb C hn [(.iconst 0, 1), (.istore_n 2, 1), (.iconst 0, 1), (.istore_n 3, 1)] (pc' := 18) (ls' := [(0, .ref (a0 0)), (1, .int p1), (2, .int (0 : Int32)), (3, .int (0 : Int32))]) (st' := []) (decB_ok (by decide +kernel)) rfl rfl ?_
    refine V_sub (ls' := [(0, .ref (a0 0)), (1, .int p1), (2, .int (0 : Int32)), (3, .int (0 : Int32))]) rfl ?_
    exact cfX4_ofKind_L18 C hn FU _ _ _ h
set_option maxRecDepth 100000 in
set_option maxHeartbeats 400000 in
theorem cfX4_isTime {l : Launch} {G : GG} {p0 : Int32} {out : Int32} (h : fX4_isTime p0 = some out) : Con l G 0 yX4_isTime cX4_isTime 1 (some .boolean) [.int p0] (([] : va_W)) (some (.int out)) (([] : va_W)) := by
  refine Con_of (by decide +kernel) (Nat.le_of_ble_eq_true rfl) (fun E hl hG hn C => ?_)
  subst hl
  subst hG
  have C : Ctx E cX4_isTime RX4 0 (some .boolean) := C
  show V E _ _ 0 [(0, .int p0)] []
  unfold fX4_isTime at h
  refine V_pb C hn [(.iload_n 0, 1)] (pc' := 1) (ls' := [(0, .int p0)]) (st' := [.int p0]) (decB_ok (by decide +kernel)) rfl rfl ?_
  refine V_if_lt C (off := 13) (tgt := 14) (by decide +kernel) (by decide) h (fun _ h => ?_) (fun _ h => ?_)
  · refine V_pb C hn [(.iconst 0, 1)] (pc' := 15) (ls' := [(0, .int p0)]) (st' := [.int (0 : Int32)]) (decB_ok (by decide +kernel)) rfl rfl ?_
    have h := Option.some.inj h
    subst h
    exact V_iret C (v := (0 : Int32)) (by decide +kernel) nb0
  · refine V_pb C hn [(.iload_n 0, 1), (.bipush 24, 2)] (pc' := 7) (ls' := [(0, .int p0)]) (st' := [.int (24 : Int32), .int p0]) (decB_ok (by decide +kernel)) rfl rfl ?_
    refine V_ic_gt C (off := 7) (tgt := 14) (by decide +kernel) (by decide) h (fun _ h => ?_) (fun _ h => ?_)
    · refine V_pb C hn [(.iconst 0, 1)] (pc' := 15) (ls' := [(0, .int p0)]) (st' := [.int (0 : Int32)]) (decB_ok (by decide +kernel)) rfl rfl ?_
      have h := Option.some.inj h
      subst h
      exact V_iret C (v := (0 : Int32)) (by decide +kernel) nb0
    · refine V_pb C hn [(.iconst 1, 1)] (pc' := 11) (ls' := [(0, .int p0)]) (st' := [.int (1 : Int32)]) (decB_ok (by decide +kernel)) rfl rfl ?_
      refine V_goto C (off := 4) (tgt := 15) (by decide +kernel) (by decide) ?_
      have h := Option.some.inj h
      subst h
      exact V_iret C (v := (1 : Int32)) (by decide +kernel) nb1
set_option maxRecDepth 100000 in
set_option maxHeartbeats 400000 in
theorem cfX4_walked_L17 {E : VE} (C : Ctx E cX4_walked RX4 3 (some .int)) (hn : E.nL = 6) {a0 : Nat → Nat} {p1 : Int32} {p2 : Int32} {p3 : Int32} {out : Int32 × XT} : ∀ (n : Nat) (v4 : Int32) (v5 : Int32) (S0 : XT), fX4_walked_L17 p1 p2 p3 n v4 v5 S0 = some out → V E (QR E (some (.int out.1)) (wdX E.G a0 out.2)) (wdX E.G a0 S0) 17 [(0, .ref (a0 0)), (1, .int p1), (3, .int p3), (4, .int v4), (5, .int v5)] [] := by
  intro n
  induction n with
  | zero =>
    intro v4 v5 S0 h
    cases h
  | succ n ih =>
    intro v4 v5 S0 h
    unfold fX4_walked_L17 at h
    refine V_pb C hn [(.iload 5, 2), (.iload_n 3, 1)] (pc' := 20) (ls' := [(0, .ref (a0 0)), (1, .int p1), (3, .int p3), (4, .int v4), (5, .int v5)]) (st' := [.int p3, .int v5]) (decB_ok (by decide +kernel)) rfl rfl ?_
    refine V_ic_ge C (off := 36) (tgt := 56) (by decide +kernel) (by decide) h (fun _ h => ?_) (fun _ h => ?_)
    · refine V_pb C hn [(.iload 4, 2)] (pc' := 58) (ls' := [(0, .ref (a0 0)), (1, .int p1), (3, .int p3), (4, .int v4), (5, .int v5)]) (st' := [.int v4]) (decB_ok (by decide +kernel)) rfl rfl ?_
      have h := Option.some.inj h
      subst h
      exact V_iret C (by decide +kernel) rfl
    · refine V_pb C hn [(.aload_n 0, 1)] (pc' := 24) (ls' := [(0, .ref (a0 0)), (1, .int p1), (3, .int p3), (4, .int v4), (5, .int v5)]) (st' := [.ref (a0 0)]) (decB_ok (by decide +kernel)) rfl rfl ?_
      refine V_get C (v := .ref (a0 12)) (by decide +kernel) 0 2 fk_RX4_19 rfl rfl ?_
      refine V_pb C hn [(.aload_n 0, 1)] (pc' := 28) (ls' := [(0, .ref (a0 0)), (1, .int p1), (3, .int p3), (4, .int v4), (5, .int v5)]) (st' := [.ref (a0 0), .ref (a0 12)]) (decB_ok (by decide +kernel)) rfl rfl ?_
      refine V_get C (v := .ref (a0 12)) (by decide +kernel) 0 2 fk_RX4_19 rfl rfl ?_
      refine V_get C (v := .ref (a0 13)) (by decide +kernel) 12 2 fk_RX4_113 rfl rfl ?_
      refine V_pb C hn [(.iload_n 1, 1)] (pc' := 35) (ls' := [(0, .ref (a0 0)), (1, .int p1), (3, .int p3), (4, .int v4), (5, .int v5)]) (st' := [.int p1, .ref (a0 13), .ref (a0 12)]) (decB_ok (by decide +kernel)) rfl rfl ?_
      refine V_iald C (f := (h_kindOf (x_trial S0))) (by decide +kernel) 13 rfl h (fun h => ?_)
      refine V_pb C hn [(.iload 4, 2)] (pc' := 38) (ls' := [(0, .ref (a0 0)), (1, .int p1), (3, .int p3), (4, .int v4), (5, .int v5)]) (st' := [.int v4, .int ((h_kindOf (x_trial S0)) (ix p1)), .ref (a0 12)]) (decB_ok (by decide +kernel)) rfl rfl ?_
      obtain ⟨q3, h4, h⟩ := bnd h
      refine V_callVp C (As := [.int ((h_kindOf (x_trial S0)) (ix p1)), .int v4]) (rest := []) (by decide +kernel) ok_yX1_next mk_RX4_125 (cfX1_next (l := E.l) (G := E.G) (fun j => a0 (12 + j)) h4) [12, 13, 14, 15] (q0 := 0) rfl rfl rfl rfl rfl rfl rfl (Nat.le_of_ble_eq_true rfl) (Nat.le_of_ble_eq_true rfl) (Nat.le_of_ble_eq_true rfl) ?_
      show V E _ (wdX E.G a0 S0) 41 [(0, .ref (a0 0)), (1, .int p1), (3, .int p3), (4, .int v4), (5, .int v5)] [.int q3]
      refine V_pb C hn [(.istore 4, 2), (.aload_n 0, 1)] (pc' := 44) (ls' := [(0, .ref (a0 0)), (1, .int p1), (3, .int p3), (4, .int q3), (5, .int v5)]) (st' := [.ref (a0 0)]) (decB_ok (by decide +kernel)) rfl rfl ?_
      refine V_get C (v := .ref (a0 12)) (by decide +kernel) 0 2 fk_RX4_19 rfl rfl ?_
      obtain ⟨q5, h6, h⟩ := bnd h
      refine V_callV (ws' := wdX E.G a0 (xs_trial S0 q5)) C (As := []) (rest := []) (by decide +kernel) ok_yX1_passHour mk_RX4_325 (cfX1_passHour (l := E.l) (G := E.G) (fun j => a0 (12 + j)) h6) [12, 13, 14, 15] (q0 := 0) rfl rfl rfl rfl rfl rfl rfl rfl rfl (Nat.le_of_ble_eq_true rfl) (Nat.le_of_ble_eq_true rfl) (Nat.le_of_ble_eq_true rfl) ?_
      show V E _ (wdX E.G a0 (xs_trial S0 q5)) 50 [(0, .ref (a0 0)), (1, .int p1), (3, .int p3), (4, .int q3), (5, .int v5)] []
      refine V_pb C hn [(.iinc 5 1, 3)] (pc' := 53) (ls' := [(0, .ref (a0 0)), (1, .int p1), (3, .int p3), (4, .int q3), (5, .int (v5 + (1 : Int32)))]) (st' := []) (decB_ok (by decide +kernel)) rfl rfl ?_
      refine V_goto C (off := -36) (tgt := 17) (by decide +kernel) (by decide) ?_
      refine V_sub (ls' := [(0, .ref (a0 0)), (1, .int p1), (3, .int p3), (4, .int q3), (5, .int (v5 + (1 : Int32)))]) rfl ?_
      exact ih _ _ _ h
set_option maxRecDepth 100000 in
set_option maxHeartbeats 400000 in
theorem cfX4_walked {l : Launch} {G : GG} (a0 : Nat → Nat) {p1 : Int32} {p2 : Int32} {p3 : Int32} {S0 : XT} {out : Int32 × XT} (h : fX4_walked p1 p2 p3 S0 = some out) : Con l G 3 yX4_walked cX4_walked 6 (some .int) [.ref (a0 0), .int p1, .int p2, .int p3] (wdX G a0 S0) (some (.int out.1)) (wdX G a0 out.2) := by
  refine Con_of (by decide +kernel) (Nat.le_of_ble_eq_true rfl) (fun E hl hG hn C => ?_)
  subst hl
  subst hG
  have C : Ctx E cX4_walked RX4 3 (some .int) := C
  show V E _ _ 0 [(0, .ref (a0 0)), (1, .int p1), (2, .int p2), (3, .int p3)] []
  unfold fX4_walked at h
  refine V_pb C hn [(.aload_n 0, 1)] (pc' := 1) (ls' := [(0, .ref (a0 0)), (1, .int p1), (2, .int p2), (3, .int p3)]) (st' := [.ref (a0 0)]) (decB_ok (by decide +kernel)) rfl rfl ?_
  refine V_get C (v := .ref (a0 12)) (by decide +kernel) 0 2 fk_RX4_19 rfl rfl ?_
  refine V_pb C hn [(.aload_n 0, 1)] (pc' := 5) (ls' := [(0, .ref (a0 0)), (1, .int p1), (2, .int p2), (3, .int p3)]) (st' := [.ref (a0 0), .ref (a0 12)]) (decB_ok (by decide +kernel)) rfl rfl ?_
  refine V_get C (v := .ref (a0 4)) (by decide +kernel) 0 0 fk_RX4_12 rfl rfl ?_
  obtain ⟨q1, h2, h⟩ := bnd h
  refine V_callV (ws' := wdX E.G a0 (xs_trial S0 q1)) C (As := [.ref (a0 4)]) (rest := []) (by decide +kernel) ok_yX1_takeOver mk_RX4_170 (cfX1_takeOver (l := E.l) (G := E.G) (fun j => a0 (12 + j)) (fun j => a0 (4 + j)) h2) [12, 13, 14, 15, 4, 5, 6, 7] (q0 := 0) rfl rfl rfl rfl rfl rfl rfl rfl rfl (Nat.le_of_ble_eq_true rfl) (Nat.le_of_ble_eq_true rfl) (Nat.le_of_ble_eq_true rfl) ?_
  show V E _ (wdX E.G a0 (xs_trial S0 q1)) 11 [(0, .ref (a0 0)), (1, .int p1), (2, .int p2), (3, .int p3)] []
  refine V_pb C hn [(.iload_n 2, 1), (.istore 4, 2), (.iconst 0, 1), (.istore 5, 2)] (pc' := 17) (ls' := [(0, .ref (a0 0)), (1, .int p1), (2, .int p2), (3, .int p3), (4, .int p2), (5, .int (0 : Int32))]) (st' := []) (decB_ok (by decide +kernel)) rfl rfl ?_
  refine V_sub (ls' := [(0, .ref (a0 0)), (1, .int p1), (3, .int p3), (4, .int p2), (5, .int (0 : Int32))]) rfl ?_
  exact cfX4_walked_L17 C hn FU _ _ _ h
set_option maxRecDepth 100000 in
set_option maxHeartbeats 400000 in
theorem cfX4_where_j15 {E : VE} (C : Ctx E cX4_where RX4 4 (some .int)) (hn : E.nL = 3) {a0 : Nat → Nat} {p1 : Int32} {p2 : Int32} {S0 : XT} {out : Int32 × XT} (h : fX4_where_j15 p1 p2 S0 = some out) : V E (QR E (some (.int out.1)) (wdX E.G a0 out.2)) (wdX E.G a0 S0) 15 [(0, .ref (a0 0))] [] := by
  unfold fX4_where_j15 at h
  refine V_pb C hn [(.aload_n 0, 1), (.bipush (-2), 2)] (pc' := 18) (ls' := [(0, .ref (a0 0))]) (st' := [.int (cI (-2)), .ref (a0 0)]) (decB_ok (by decide +kernel)) rfl rfl ?_
  obtain ⟨q3, h4, h⟩ := bnd h
  refine V_callV0 C (As := [.int (cI (-2))]) (rest := []) (by decide +kernel) ok_yX4_refuse mk_RX4_57 (cfX4_refuse (l := E.l) (G := E.G) a0 h4) (q0 := 0) rfl rfl rfl rfl rfl rfl (Nat.le_of_ble_eq_true rfl) (Nat.le_of_ble_eq_true rfl) (Nat.le_of_ble_eq_true rfl) ?_
  show V E _ (wdX E.G a0 q3.2) 21 [(0, .ref (a0 0))] [.int q3.1]
  have h := Option.some.inj h
  subst h
  exact V_iret C (by decide +kernel) rfl
set_option maxRecDepth 100000 in
set_option maxHeartbeats 400000 in
theorem cfX4_where {l : Launch} {G : GG} (a0 : Nat → Nat) {p1 : Int32} {p2 : Int32} {S0 : XT} {out : Int32 × XT} (h : fX4_where p1 p2 S0 = some out) : Con l G 4 yX4_where cX4_where 3 (some .int) [.ref (a0 0), .int p1, .int p2] (wdX G a0 S0) (some (.int out.1)) (wdX G a0 out.2) := by
  refine Con_of (by decide +kernel) (Nat.le_of_ble_eq_true rfl) (fun E hl hG hn C => ?_)
  subst hl
  subst hG
  have C : Ctx E cX4_where RX4 4 (some .int) := C
  show V E _ _ 0 [(0, .ref (a0 0)), (1, .int p1), (2, .int p2)] []
  unfold fX4_where at h
  refine V_pb C hn [(.aload_n 0, 1), (.iload_n 1, 1)] (pc' := 2) (ls' := [(0, .ref (a0 0)), (1, .int p1), (2, .int p2)]) (st' := [.int p1, .ref (a0 0)]) (decB_ok (by decide +kernel)) rfl rfl ?_
  obtain ⟨q1, h2, h⟩ := bnd h
  refine V_callV0 C (As := [.int p1]) (rest := []) (by decide +kernel) ok_yX4_isMote mk_RX4_100 (cfX4_isMote (l := E.l) (G := E.G) a0 h2) (q0 := 0) rfl rfl rfl rfl rfl rfl (Nat.le_of_ble_eq_true rfl) (Nat.le_of_ble_eq_true rfl) (Nat.le_of_ble_eq_true rfl) ?_
  show V E _ (wdX E.G a0 S0) 5 [(0, .ref (a0 0)), (1, .int p1), (2, .int p2)] [.int q1]
  refine V_if_eq C (off := 10) (tgt := 15) (by decide +kernel) (by decide) h (fun _ h => ?_) (fun _ h => ?_)
  · refine V_sub (ls' := [(0, .ref (a0 0))]) rfl ?_
    exact cfX4_where_j15 C hn h
  · refine V_pb C hn [(.iload_n 2, 1)] (pc' := 9) (ls' := [(0, .ref (a0 0)), (1, .int p1), (2, .int p2)]) (st' := [.int p2]) (decB_ok (by decide +kernel)) rfl rfl ?_
    obtain ⟨q5, h6, h⟩ := bnd h
    refine V_callSp C (As := [.int p2]) (rest := []) (by decide +kernel) ok_yX4_isTime mk_RX4_194 (cfX4_isTime (l := E.l) (G := E.G) h6) [] rfl rfl rfl rfl (Nat.le_of_ble_eq_true rfl) (Nat.le_of_ble_eq_true rfl) (Nat.le_of_ble_eq_true rfl) ?_
    show V E _ (wdX E.G a0 S0) 12 [(0, .ref (a0 0)), (1, .int p1), (2, .int p2)] [.int q5]
    refine V_if_ne C (off := 10) (tgt := 22) (by decide +kernel) (by decide) h (fun _ h => ?_) (fun _ h => ?_)
    · refine V_sub (ls' := [(0, .ref (a0 0))]) rfl ?_
      exact cfX4_where_j15 C hn h
    · refine V_pb C hn [(.aload_n 0, 1), (.iload_n 1, 1), (.aload_n 0, 1)] (pc' := 25) (ls' := [(0, .ref (a0 0)), (1, .int p1), (2, .int p2)]) (st' := [.ref (a0 0), .int p1, .ref (a0 0)]) (decB_ok (by decide +kernel)) rfl rfl ?_
      refine V_get C (v := .ref (a0 4)) (by decide +kernel) 0 0 fk_RX4_12 rfl rfl ?_
      refine V_get C (v := .ref (a0 7)) (by decide +kernel) 4 4 fk_RX4_122 rfl rfl ?_
      refine V_pb C hn [(.iload_n 1, 1)] (pc' := 32) (ls' := [(0, .ref (a0 0)), (1, .int p1), (2, .int p2)]) (st' := [.int p1, .ref (a0 7), .int p1, .ref (a0 0)]) (decB_ok (by decide +kernel)) rfl rfl ?_
      refine V_iald C (f := (h_cellOf (x_now S0))) (by decide +kernel) 7 rfl h (fun h => ?_)
      refine V_pb C hn [(.iload_n 2, 1)] (pc' := 34) (ls' := [(0, .ref (a0 0)), (1, .int p1), (2, .int p2)]) (st' := [.int p2, .int ((h_cellOf (x_now S0)) (ix p1)), .int p1, .ref (a0 0)]) (decB_ok (by decide +kernel)) rfl rfl ?_
      obtain ⟨q7, h8, h⟩ := bnd h
      refine V_callV0 C (As := [.int p1, .int ((h_cellOf (x_now S0)) (ix p1)), .int p2]) (rest := []) (by decide +kernel) ok_yX4_walked mk_RX4_197 (cfX4_walked (l := E.l) (G := E.G) a0 h8) (q0 := 0) rfl rfl rfl rfl rfl rfl (Nat.le_of_ble_eq_true rfl) (Nat.le_of_ble_eq_true rfl) (Nat.le_of_ble_eq_true rfl) ?_
      show V E _ (wdX E.G a0 q7.2) 37 [(0, .ref (a0 0)), (1, .int p1), (2, .int p2)] [.int q7.1]
      have h := Option.some.inj h
      subst h
      exact V_iret C (by decide +kernel) rfl
set_option maxRecDepth 100000 in
set_option maxHeartbeats 400000 in
theorem cfX4_lookAhead {l : Launch} {G : GG} (a0 : Nat → Nat) {p1 : Int32} {S0 : XT} {out : XT} (h : fX4_lookAhead p1 S0 = some out) : Con l G 4 yX4_lookAhead cX4_lookAhead 2 none [.ref (a0 0), .int p1] (wdX G a0 S0) none (wdX G a0 out) := by
  refine Con_of (by decide +kernel) (Nat.le_of_ble_eq_true rfl) (fun E hl hG hn C => ?_)
  subst hl
  subst hG
  have C : Ctx E cX4_lookAhead RX4 4 none := C
  show V E _ _ 0 [(0, .ref (a0 0)), (1, .int p1)] []
  unfold fX4_lookAhead at h
  refine V_pb C hn [(.aload_n 0, 1)] (pc' := 1) (ls' := [(0, .ref (a0 0)), (1, .int p1)]) (st' := [.ref (a0 0)]) (decB_ok (by decide +kernel)) rfl rfl ?_
  refine V_get C (v := .ref (a0 12)) (by decide +kernel) 0 2 fk_RX4_19 rfl rfl ?_
  refine V_pb C hn [(.aload_n 0, 1)] (pc' := 5) (ls' := [(0, .ref (a0 0)), (1, .int p1)]) (st' := [.ref (a0 0), .ref (a0 12)]) (decB_ok (by decide +kernel)) rfl rfl ?_
  refine V_get C (v := .ref (a0 4)) (by decide +kernel) 0 0 fk_RX4_12 rfl rfl ?_
  obtain ⟨q1, h2, h⟩ := bnd h
  refine V_callV (ws' := wdX E.G a0 (xs_trial S0 q1)) C (As := [.ref (a0 4)]) (rest := []) (by decide +kernel) ok_yX1_takeOver mk_RX4_170 (cfX1_takeOver (l := E.l) (G := E.G) (fun j => a0 (12 + j)) (fun j => a0 (4 + j)) h2) [12, 13, 14, 15, 4, 5, 6, 7] (q0 := 0) rfl rfl rfl rfl rfl rfl rfl rfl rfl (Nat.le_of_ble_eq_true rfl) (Nat.le_of_ble_eq_true rfl) (Nat.le_of_ble_eq_true rfl) ?_
  show V E _ (wdX E.G a0 (xs_trial S0 q1)) 11 [(0, .ref (a0 0)), (1, .int p1)] []
  refine V_pb C hn [(.aload_n 0, 1)] (pc' := 12) (ls' := [(0, .ref (a0 0)), (1, .int p1)]) (st' := [.ref (a0 0)]) (decB_ok (by decide +kernel)) rfl rfl ?_
  refine V_get C (v := .ref (a0 12)) (by decide +kernel) 0 2 fk_RX4_19 rfl rfl ?_
  refine V_pb C hn [(.iload_n 1, 1)] (pc' := 16) (ls' := [(0, .ref (a0 0)), (1, .int p1)]) (st' := [.int p1, .ref (a0 12)]) (decB_ok (by decide +kernel)) rfl rfl ?_
  obtain ⟨q3, h4, h⟩ := bnd h
  refine V_callV (ws' := wdX E.G a0 (xs_trial S0 q3)) C (As := [.int p1]) (rest := []) (by decide +kernel) ok_yX1_goOn mk_RX4_229 (cfX1_goOn (l := E.l) (G := E.G) (fun j => a0 (12 + j)) h4) [12, 13, 14, 15] (q0 := 0) rfl rfl rfl rfl rfl rfl rfl rfl rfl (Nat.le_of_ble_eq_true rfl) (Nat.le_of_ble_eq_true rfl) (Nat.le_of_ble_eq_true rfl) ?_
  show V E _ (wdX E.G a0 (xs_trial S0 q3)) 19 [(0, .ref (a0 0)), (1, .int p1)] []
  have h := Option.some.inj h
  subst h
  exact V_vret C (by decide +kernel)
set_option maxRecDepth 100000 in
set_option maxHeartbeats 400000 in
theorem cfX4_votes_j16 {E : VE} (C : Ctx E cX4_votes RX4 5 (some .int)) (hn : E.nL = 3) {a0 : Nat → Nat} {p1 : Int32} {p2 : Int32} {S0 : XT} {out : Int32 × XT} (h : fX4_votes_j16 p1 p2 S0 = some out) : V E (QR E (some (.int out.1)) (wdX E.G a0 out.2)) (wdX E.G a0 S0) 16 [(0, .ref (a0 0))] [] := by
  unfold fX4_votes_j16 at h
  refine V_pb C hn [(.aload_n 0, 1), (.bipush (-2), 2)] (pc' := 19) (ls' := [(0, .ref (a0 0))]) (st' := [.int (cI (-2)), .ref (a0 0)]) (decB_ok (by decide +kernel)) rfl rfl ?_
  obtain ⟨q3, h4, h⟩ := bnd h
  refine V_callV0 C (As := [.int (cI (-2))]) (rest := []) (by decide +kernel) ok_yX4_refuse mk_RX4_57 (cfX4_refuse (l := E.l) (G := E.G) a0 h4) (q0 := 0) rfl rfl rfl rfl rfl rfl (Nat.le_of_ble_eq_true rfl) (Nat.le_of_ble_eq_true rfl) (Nat.le_of_ble_eq_true rfl) ?_
  show V E _ (wdX E.G a0 q3.2) 22 [(0, .ref (a0 0))] [.int q3.1]
  have h := Option.some.inj h
  subst h
  exact V_iret C (by decide +kernel) rfl
set_option maxRecDepth 100000 in
set_option maxHeartbeats 400000 in
theorem cfX4_votes {l : Launch} {G : GG} (a0 : Nat → Nat) {p1 : Int32} {p2 : Int32} {S0 : XT} {out : Int32 × XT} (h : fX4_votes p1 p2 S0 = some out) : Con l G 5 yX4_votes cX4_votes 3 (some .int) [.ref (a0 0), .int p1, .int p2] (wdX G a0 S0) (some (.int out.1)) (wdX G a0 out.2) := by
  refine Con_of (by decide +kernel) (Nat.le_of_ble_eq_true rfl) (fun E hl hG hn C => ?_)
  subst hl
  subst hG
  have C : Ctx E cX4_votes RX4 5 (some .int) := C
  show V E _ _ 0 [(0, .ref (a0 0)), (1, .int p1), (2, .int p2)] []
  unfold fX4_votes at h
  refine V_pb C hn [(.iload_n 1, 1)] (pc' := 1) (ls' := [(0, .ref (a0 0)), (1, .int p1), (2, .int p2)]) (st' := [.int p1]) (decB_ok (by decide +kernel)) rfl rfl ?_
  obtain ⟨q1, h2, h⟩ := bnd h
  refine V_callSp C (As := [.int p1]) (rest := []) (by decide +kernel) ok_yX4_isTime mk_RX4_194 (cfX4_isTime (l := E.l) (G := E.G) h2) [] rfl rfl rfl rfl (Nat.le_of_ble_eq_true rfl) (Nat.le_of_ble_eq_true rfl) (Nat.le_of_ble_eq_true rfl) ?_
  show V E _ (wdX E.G a0 S0) 4 [(0, .ref (a0 0)), (1, .int p1), (2, .int p2)] [.int q1]
  refine V_if_eq C (off := 12) (tgt := 16) (by decide +kernel) (by decide) h (fun _ h => ?_) (fun _ h => ?_)
  · refine V_sub (ls' := [(0, .ref (a0 0))]) rfl ?_
    exact cfX4_votes_j16 C hn h
  · refine V_pb C hn [(.iload_n 2, 1)] (pc' := 8) (ls' := [(0, .ref (a0 0)), (1, .int p1), (2, .int p2)]) (st' := [.int p2]) (decB_ok (by decide +kernel)) rfl rfl ?_
    refine V_if_lt C (off := 8) (tgt := 16) (by decide +kernel) (by decide) h (fun _ h => ?_) (fun _ h => ?_)
    · refine V_sub (ls' := [(0, .ref (a0 0))]) rfl ?_
      exact cfX4_votes_j16 C hn h
    · refine V_pb C hn [(.iload_n 2, 1), (.iconst 2, 1)] (pc' := 13) (ls' := [(0, .ref (a0 0)), (1, .int p1), (2, .int p2)]) (st' := [.int (2 : Int32), .int p2]) (decB_ok (by decide +kernel)) rfl rfl ?_
      refine V_ic_le C (off := 10) (tgt := 23) (by decide +kernel) (by decide) h (fun _ h => ?_) (fun _ h => ?_)
      · refine V_pb C hn [(.aload_n 0, 1), (.iload_n 1, 1)] (pc' := 25) (ls' := [(0, .ref (a0 0)), (1, .int p1), (2, .int p2)]) (st' := [.int p1, .ref (a0 0)]) (decB_ok (by decide +kernel)) rfl rfl ?_
        obtain ⟨q5, h6, h⟩ := bnd h
        refine V_callV0 C (As := [.int p1]) (rest := []) (by decide +kernel) ok_yX4_lookAhead mk_RX4_201 (cfX4_lookAhead (l := E.l) (G := E.G) a0 h6) (q0 := 0) rfl rfl rfl rfl rfl rfl (Nat.le_of_ble_eq_true rfl) (Nat.le_of_ble_eq_true rfl) (Nat.le_of_ble_eq_true rfl) ?_
        show V E _ (wdX E.G a0 q5) 28 [(0, .ref (a0 0)), (1, .int p1), (2, .int p2)] []
        refine V_pb C hn [(.iload_n 2, 1)] (pc' := 29) (ls' := [(0, .ref (a0 0)), (1, .int p1), (2, .int p2)]) (st' := [.int p2]) (decB_ok (by decide +kernel)) rfl rfl ?_
        refine V_lk C (dflt := 46) (ps := #[(0, 27), (1, 35)]) (len := 27) (by decide +kernel) (by decide) ?_
        refine Lk_at (off := 27) (v := (0 : Int32)) (tgt := 56) (by decide) (by decide) h (fun _ h => ?_) (fun _ h => ?_)
        · refine V_pb C hn [(.aload_n 0, 1)] (pc' := 57) (ls' := [(0, .ref (a0 0)), (1, .int p1), (2, .int p2)]) (st' := [.ref (a0 0)]) (decB_ok (by decide +kernel)) rfl rfl ?_
          refine V_get C (v := .ref (a0 12)) (by decide +kernel) 0 2 fk_RX4_19 rfl rfl ?_
          obtain ⟨q7, h8, h⟩ := bnd h
          refine V_callVp C (As := []) (rest := []) (by decide +kernel) ok_yX1_litWeight mk_RX4_204 (cfX1_litWeight (l := E.l) (G := E.G) (fun j => a0 (12 + j)) h8) [12, 13, 14, 15] (q0 := 0) rfl rfl rfl rfl rfl rfl rfl (Nat.le_of_ble_eq_true rfl) (Nat.le_of_ble_eq_true rfl) (Nat.le_of_ble_eq_true rfl) ?_
          show V E _ (wdX E.G a0 q5) 63 [(0, .ref (a0 0)), (1, .int p1), (2, .int p2)] [.int q7]
          have h := Option.some.inj h
          subst h
          exact V_iret C (by decide +kernel) rfl
        refine Lk_at (off := 35) (v := (1 : Int32)) (tgt := 64) (by decide) (by decide) h (fun _ h => ?_) (fun _ h => ?_)
        · refine V_pb C hn [(.aload_n 0, 1)] (pc' := 65) (ls' := [(0, .ref (a0 0)), (1, .int p1), (2, .int p2)]) (st' := [.ref (a0 0)]) (decB_ok (by decide +kernel)) rfl rfl ?_
          refine V_get C (v := .ref (a0 12)) (by decide +kernel) 0 2 fk_RX4_19 rfl rfl ?_
          obtain ⟨q9, h10, h⟩ := bnd h
          refine V_callVp C (As := []) (rest := []) (by decide +kernel) ok_yX1_carries mk_RX4_208 (cfX1_carries (l := E.l) (G := E.G) (fun j => a0 (12 + j)) h10) [12, 13, 14, 15] (q0 := 0) rfl rfl rfl rfl rfl rfl rfl (Nat.le_of_ble_eq_true rfl) (Nat.le_of_ble_eq_true rfl) (Nat.le_of_ble_eq_true rfl) ?_
          show V E _ (wdX E.G a0 q5) 71 [(0, .ref (a0 0)), (1, .int p1), (2, .int p2)] [.int q9]
          obtain ⟨q11, h12, h⟩ := bnd h
          refine V_callSp C (As := [.int q9]) (rest := []) (by decide +kernel) ok_yX4_bit mk_RX4_184 (cfX4_bit (l := E.l) (G := E.G) h12) [] rfl rfl rfl rfl (Nat.le_of_ble_eq_true rfl) (Nat.le_of_ble_eq_true rfl) (Nat.le_of_ble_eq_true rfl) ?_
          show V E _ (wdX E.G a0 q5) 74 [(0, .ref (a0 0)), (1, .int p1), (2, .int p2)] [.int q11]
          have h := Option.some.inj h
          subst h
          exact V_iret C (by decide +kernel) rfl
        refine Lk_end (tgt := 75) (by decide) ?_
        refine V_pb C hn [(.aload_n 0, 1)] (pc' := 76) (ls' := [(0, .ref (a0 0)), (1, .int p1), (2, .int p2)]) (st' := [.ref (a0 0)]) (decB_ok (by decide +kernel)) rfl rfl ?_
        refine V_get C (v := .ref (a0 12)) (by decide +kernel) 0 2 fk_RX4_19 rfl rfl ?_
        obtain ⟨q13, h14, h⟩ := bnd h
        refine V_callVp C (As := []) (rest := []) (by decide +kernel) ok_yX1_litCount mk_RX4_211 (cfX1_litCount (l := E.l) (G := E.G) (fun j => a0 (12 + j)) h14) [12, 13, 14, 15] (q0 := 0) rfl rfl rfl rfl rfl rfl rfl (Nat.le_of_ble_eq_true rfl) (Nat.le_of_ble_eq_true rfl) (Nat.le_of_ble_eq_true rfl) ?_
        show V E _ (wdX E.G a0 q5) 82 [(0, .ref (a0 0)), (1, .int p1), (2, .int p2)] [.int q13]
        have h := Option.some.inj h
        subst h
        exact V_iret C (by decide +kernel) rfl
      · refine V_sub (ls' := [(0, .ref (a0 0))]) rfl ?_
        exact cfX4_votes_j16 C hn h
set_option maxRecDepth 100000 in
set_option maxHeartbeats 400000 in
theorem cfX4_firstCarried_L13 {E : VE} (C : Ctx E cX4_firstCarried RX4 4 (some .int)) (hn : E.nL = 2) {a0 : Nat → Nat} {out : Int32 × XT} : ∀ (n : Nat) (v1 : Int32) (S0 : XT), fX4_firstCarried_L13 n v1 S0 = some out → V E (QR E (some (.int out.1)) (wdX E.G a0 out.2)) (wdX E.G a0 S0) 13 [(0, .ref (a0 0)), (1, .int v1)] [] := by
  intro n
  induction n with
  | zero =>
    intro v1 S0 h
    cases h
  | succ n ih =>
    intro v1 S0 h
    unfold fX4_firstCarried_L13 at h
    refine V_pb C hn [(.iload_n 1, 1), (.bipush 24, 2)] (pc' := 16) (ls' := [(0, .ref (a0 0)), (1, .int v1)]) (st' := [.int (24 : Int32), .int v1]) (decB_ok (by decide +kernel)) rfl rfl ?_
    refine V_ic_gt C (off := 29) (tgt := 45) (by decide +kernel) (by decide) h (fun _ h => ?_) (fun _ h => ?_)
    · refine V_pb C hn [(.iconst (-1), 1)] (pc' := 46) (ls' := [(0, .ref (a0 0)), (1, .int v1)]) (st' := [.int (cI (-1))]) (decB_ok (by decide +kernel)) rfl rfl ?_
      have h := Option.some.inj h
      subst h
      exact V_iret C (by decide +kernel) rfl
    · refine V_pb C hn [(.aload_n 0, 1)] (pc' := 20) (ls' := [(0, .ref (a0 0)), (1, .int v1)]) (st' := [.ref (a0 0)]) (decB_ok (by decide +kernel)) rfl rfl ?_
      refine V_get C (v := .ref (a0 12)) (by decide +kernel) 0 2 fk_RX4_19 rfl rfl ?_
      obtain ⟨q3, h4, h⟩ := bnd h
      refine V_callVp C (As := []) (rest := []) (by decide +kernel) ok_yX1_carries mk_RX4_208 (cfX1_carries (l := E.l) (G := E.G) (fun j => a0 (12 + j)) h4) [12, 13, 14, 15] (q0 := 0) rfl rfl rfl rfl rfl rfl rfl (Nat.le_of_ble_eq_true rfl) (Nat.le_of_ble_eq_true rfl) (Nat.le_of_ble_eq_true rfl) ?_
      show V E _ (wdX E.G a0 S0) 26 [(0, .ref (a0 0)), (1, .int v1)] [.int q3]
      refine V_if_eq C (off := 5) (tgt := 31) (by decide +kernel) (by decide) h (fun _ h => ?_) (fun _ h => ?_)
      · refine V_pb C hn [(.aload_n 0, 1)] (pc' := 32) (ls' := [(0, .ref (a0 0)), (1, .int v1)]) (st' := [.ref (a0 0)]) (decB_ok (by decide +kernel)) rfl rfl ?_
        refine V_get C (v := .ref (a0 12)) (by decide +kernel) 0 2 fk_RX4_19 rfl rfl ?_
        refine V_pb C hn [(.iconst 1, 1)] (pc' := 36) (ls' := [(0, .ref (a0 0)), (1, .int v1)]) (st' := [.int (1 : Int32), .ref (a0 12)]) (decB_ok (by decide +kernel)) rfl rfl ?_
        obtain ⟨q5, h6, h⟩ := bnd h
        refine V_callV (ws' := wdX E.G a0 (xs_trial S0 q5)) C (As := [.int (1 : Int32)]) (rest := []) (by decide +kernel) ok_yX1_goOn mk_RX4_229 (cfX1_goOn (l := E.l) (G := E.G) (fun j => a0 (12 + j)) h6) [12, 13, 14, 15] (q0 := 0) rfl rfl rfl rfl rfl rfl rfl rfl rfl (Nat.le_of_ble_eq_true rfl) (Nat.le_of_ble_eq_true rfl) (Nat.le_of_ble_eq_true rfl) ?_
        show V E _ (wdX E.G a0 (xs_trial S0 q5)) 39 [(0, .ref (a0 0)), (1, .int v1)] []
        refine V_pb C hn [(.iinc 1 1, 3)] (pc' := 42) (ls' := [(0, .ref (a0 0)), (1, .int (v1 + (1 : Int32)))]) (st' := []) (decB_ok (by decide +kernel)) rfl rfl ?_
        refine V_goto C (off := -29) (tgt := 13) (by decide +kernel) (by decide) ?_
        refine V_sub (ls' := [(0, .ref (a0 0)), (1, .int (v1 + (1 : Int32)))]) rfl ?_
        exact ih _ _ h
      · refine V_pb C hn [(.iload_n 1, 1)] (pc' := 30) (ls' := [(0, .ref (a0 0)), (1, .int v1)]) (st' := [.int v1]) (decB_ok (by decide +kernel)) rfl rfl ?_
        have h := Option.some.inj h
        subst h
        exact V_iret C (by decide +kernel) rfl
set_option maxRecDepth 100000 in
set_option maxHeartbeats 400000 in
theorem cfX4_firstCarried {l : Launch} {G : GG} (a0 : Nat → Nat) {S0 : XT} {out : Int32 × XT} (h : fX4_firstCarried S0 = some out) : Con l G 4 yX4_firstCarried cX4_firstCarried 2 (some .int) [.ref (a0 0)] (wdX G a0 S0) (some (.int out.1)) (wdX G a0 out.2) := by
  refine Con_of (by decide +kernel) (Nat.le_of_ble_eq_true rfl) (fun E hl hG hn C => ?_)
  subst hl
  subst hG
  have C : Ctx E cX4_firstCarried RX4 4 (some .int) := C
  show V E _ _ 0 [(0, .ref (a0 0))] []
  unfold fX4_firstCarried at h
  refine V_pb C hn [(.aload_n 0, 1)] (pc' := 1) (ls' := [(0, .ref (a0 0))]) (st' := [.ref (a0 0)]) (decB_ok (by decide +kernel)) rfl rfl ?_
  refine V_get C (v := .ref (a0 12)) (by decide +kernel) 0 2 fk_RX4_19 rfl rfl ?_
  refine V_pb C hn [(.aload_n 0, 1)] (pc' := 5) (ls' := [(0, .ref (a0 0))]) (st' := [.ref (a0 0), .ref (a0 12)]) (decB_ok (by decide +kernel)) rfl rfl ?_
  refine V_get C (v := .ref (a0 4)) (by decide +kernel) 0 0 fk_RX4_12 rfl rfl ?_
  obtain ⟨q1, h2, h⟩ := bnd h
  refine V_callV (ws' := wdX E.G a0 (xs_trial S0 q1)) C (As := [.ref (a0 4)]) (rest := []) (by decide +kernel) ok_yX1_takeOver mk_RX4_170 (cfX1_takeOver (l := E.l) (G := E.G) (fun j => a0 (12 + j)) (fun j => a0 (4 + j)) h2) [12, 13, 14, 15, 4, 5, 6, 7] (q0 := 0) rfl rfl rfl rfl rfl rfl rfl rfl rfl (Nat.le_of_ble_eq_true rfl) (Nat.le_of_ble_eq_true rfl) (Nat.le_of_ble_eq_true rfl) ?_
  show V E _ (wdX E.G a0 (xs_trial S0 q1)) 11 [(0, .ref (a0 0))] []
  refine V_pb C hn [(.iconst 0, 1), (.istore_n 1, 1)] (pc' := 13) (ls' := [(0, .ref (a0 0)), (1, .int (0 : Int32))]) (st' := []) (decB_ok (by decide +kernel)) rfl rfl ?_
  refine V_sub (ls' := [(0, .ref (a0 0)), (1, .int (0 : Int32))]) rfl ?_
  exact cfX4_firstCarried_L13 C hn FU _ _ h
set_option maxRecDepth 100000 in
set_option maxHeartbeats 400000 in
theorem cfX4_bestTime_j43 {E : VE} (C : Ctx E cX4_bestTime RX4 4 (some .int)) (hn : E.nL = 5) {a0 : Nat → Nat} {v1 : Int32} {v2 : Int32} {v3 : Int32} {S0 : XT} {out : Int32 × XT} {k17 : Int32 → Int32 → Int32 → XT → Option (Int32 × XT)} (hk17 : ∀ (v1 : Int32) (v2 : Int32) (v3 : Int32) (S0 : XT), k17 v1 v2 v3 S0 = some out → V E (QR E (some (.int out.1)) (wdX E.G a0 out.2)) (wdX E.G a0 S0) 17 [(0, .ref (a0 0)), (1, .int v1), (2, .int v2), (3, .int v3)] []) (h : fX4_bestTime_j43 k17 v1 v2 v3 S0 = some out) : V E (QR E (some (.int out.1)) (wdX E.G a0 out.2)) (wdX E.G a0 S0) 43 [(0, .ref (a0 0)), (1, .int v1), (2, .int v2), (3, .int v3)] [] := by
  unfold fX4_bestTime_j43 at h
  refine V_pb C hn [(.aload_n 0, 1)] (pc' := 44) (ls' := [(0, .ref (a0 0)), (1, .int v1), (2, .int v2), (3, .int v3)]) (st' := [.ref (a0 0)]) (decB_ok (by decide +kernel)) rfl rfl ?_
  refine V_get C (v := .ref (a0 12)) (by decide +kernel) 0 2 fk_RX4_19 rfl rfl ?_
  refine V_pb C hn [(.iconst 1, 1)] (pc' := 48) (ls' := [(0, .ref (a0 0)), (1, .int v1), (2, .int v2), (3, .int v3)]) (st' := [.int (1 : Int32), .ref (a0 12)]) (decB_ok (by decide +kernel)) rfl rfl ?_
  obtain ⟨q5, h6, h⟩ := bnd h
  refine V_callV (ws' := wdX E.G a0 (xs_trial S0 q5)) C (As := [.int (1 : Int32)]) (rest := []) (by decide +kernel) ok_yX1_goOn mk_RX4_229 (cfX1_goOn (l := E.l) (G := E.G) (fun j => a0 (12 + j)) h6) [12, 13, 14, 15] (q0 := 0) rfl rfl rfl rfl rfl rfl rfl rfl rfl (Nat.le_of_ble_eq_true rfl) (Nat.le_of_ble_eq_true rfl) (Nat.le_of_ble_eq_true rfl) ?_
  show V E _ (wdX E.G a0 (xs_trial S0 q5)) 51 [(0, .ref (a0 0)), (1, .int v1), (2, .int v2), (3, .int v3)] []
  refine V_pb C hn [(.iinc 3 1, 3)] (pc' := 54) (ls' := [(0, .ref (a0 0)), (1, .int v1), (2, .int v2), (3, .int (v3 + (1 : Int32)))]) (st' := []) (decB_ok (by decide +kernel)) rfl rfl ?_
  refine V_goto C (off := -37) (tgt := 17) (by decide +kernel) (by decide) ?_
  refine V_sub (ls' := [(0, .ref (a0 0)), (1, .int v1), (2, .int v2), (3, .int (v3 + (1 : Int32)))]) rfl ?_
  exact hk17 _ _ _ _ h
set_option maxRecDepth 100000 in
set_option maxHeartbeats 400000 in
theorem cfX4_bestTime_L17 {E : VE} (C : Ctx E cX4_bestTime RX4 4 (some .int)) (hn : E.nL = 5) {a0 : Nat → Nat} {out : Int32 × XT} : ∀ (n : Nat) (v1 : Int32) (v2 : Int32) (v3 : Int32) (S0 : XT), fX4_bestTime_L17 n v1 v2 v3 S0 = some out → V E (QR E (some (.int out.1)) (wdX E.G a0 out.2)) (wdX E.G a0 S0) 17 [(0, .ref (a0 0)), (1, .int v1), (2, .int v2), (3, .int v3)] [] := by
  intro n
  induction n with
  | zero =>
    intro v1 v2 v3 S0 h
    cases h
  | succ n ih =>
    intro v1 v2 v3 S0 h
    unfold fX4_bestTime_L17 at h
    refine V_pb C hn [(.iload_n 3, 1), (.bipush 24, 2)] (pc' := 20) (ls' := [(0, .ref (a0 0)), (1, .int v1), (2, .int v2), (3, .int v3)]) (st' := [.int (24 : Int32), .int v3]) (decB_ok (by decide +kernel)) rfl rfl ?_
    refine V_ic_gt C (off := 37) (tgt := 57) (by decide +kernel) (by decide) h (fun _ h => ?_) (fun _ h => ?_)
    · refine V_pb C hn [(.iload_n 2, 1)] (pc' := 58) (ls' := [(0, .ref (a0 0)), (1, .int v1), (2, .int v2), (3, .int v3)]) (st' := [.int v2]) (decB_ok (by decide +kernel)) rfl rfl ?_
      have h := Option.some.inj h
      subst h
      exact V_iret C (by decide +kernel) rfl
    · refine V_pb C hn [(.aload_n 0, 1)] (pc' := 24) (ls' := [(0, .ref (a0 0)), (1, .int v1), (2, .int v2), (3, .int v3)]) (st' := [.ref (a0 0)]) (decB_ok (by decide +kernel)) rfl rfl ?_
      refine V_get C (v := .ref (a0 12)) (by decide +kernel) 0 2 fk_RX4_19 rfl rfl ?_
      obtain ⟨q3, h4, h⟩ := bnd h
      refine V_callVp C (As := []) (rest := []) (by decide +kernel) ok_yX1_litWeight mk_RX4_204 (cfX1_litWeight (l := E.l) (G := E.G) (fun j => a0 (12 + j)) h4) [12, 13, 14, 15] (q0 := 0) rfl rfl rfl rfl rfl rfl rfl (Nat.le_of_ble_eq_true rfl) (Nat.le_of_ble_eq_true rfl) (Nat.le_of_ble_eq_true rfl) ?_
      show V E _ (wdX E.G a0 S0) 30 [(0, .ref (a0 0)), (1, .int v1), (2, .int v2), (3, .int v3)] [.int q3]
      refine V_pb C hn [(.istore 4, 2), (.iload 4, 2), (.iload_n 1, 1)] (pc' := 35) (ls' := [(0, .ref (a0 0)), (1, .int v1), (2, .int v2), (3, .int v3), (4, .int q3)]) (st' := [.int v1, .int q3]) (decB_ok (by decide +kernel)) rfl rfl ?_
      refine V_ic_le C (off := 8) (tgt := 43) (by decide +kernel) (by decide) h (fun _ h => ?_) (fun _ h => ?_)
      · refine V_sub (ls' := [(0, .ref (a0 0)), (1, .int v1), (2, .int v2), (3, .int v3)]) rfl ?_
        exact cfX4_bestTime_j43 C hn (k17 := (fun v1 v2 v3 S0 => fX4_bestTime_L17 n v1 v2 v3 S0)) (fun v1 v2 v3 S0 h => ih v1 v2 v3 S0 h) h
      · refine V_pb C hn [(.iload 4, 2), (.istore_n 1, 1), (.iload_n 3, 1), (.istore_n 2, 1)] (pc' := 43) (ls' := [(0, .ref (a0 0)), (1, .int q3), (2, .int v3), (3, .int v3), (4, .int q3)]) (st' := []) (decB_ok (by decide +kernel)) rfl rfl ?_
        refine V_sub (ls' := [(0, .ref (a0 0)), (1, .int q3), (2, .int v3), (3, .int v3)]) rfl ?_
        exact cfX4_bestTime_j43 C hn (k17 := (fun v1 v2 v3 S0 => fX4_bestTime_L17 n v1 v2 v3 S0)) (fun v1 v2 v3 S0 h => ih v1 v2 v3 S0 h) h
set_option maxRecDepth 100000 in
set_option maxHeartbeats 400000 in
theorem cfX4_bestTime {l : Launch} {G : GG} (a0 : Nat → Nat) {S0 : XT} {out : Int32 × XT} (h : fX4_bestTime S0 = some out) : Con l G 4 yX4_bestTime cX4_bestTime 5 (some .int) [.ref (a0 0)] (wdX G a0 S0) (some (.int out.1)) (wdX G a0 out.2) := by
  refine Con_of (by decide +kernel) (Nat.le_of_ble_eq_true rfl) (fun E hl hG hn C => ?_)
  subst hl
  subst hG
  have C : Ctx E cX4_bestTime RX4 4 (some .int) := C
  show V E _ _ 0 [(0, .ref (a0 0))] []
  unfold fX4_bestTime at h
  refine V_pb C hn [(.iconst (-1), 1), (.istore_n 1, 1), (.iconst 0, 1), (.istore_n 2, 1), (.aload_n 0, 1)] (pc' := 5) (ls' := [(0, .ref (a0 0)), (1, .int (cI (-1))), (2, .int (0 : Int32))]) (st' := [.ref (a0 0)]) (decB_ok (by decide +kernel)) rfl rfl ?_
  refine V_get C (v := .ref (a0 12)) (by decide +kernel) 0 2 fk_RX4_19 rfl rfl ?_
  refine V_pb C hn [(.aload_n 0, 1)] (pc' := 9) (ls' := [(0, .ref (a0 0)), (1, .int (cI (-1))), (2, .int (0 : Int32))]) (st' := [.ref (a0 0), .ref (a0 12)]) (decB_ok (by decide +kernel)) rfl rfl ?_
  refine V_get C (v := .ref (a0 4)) (by decide +kernel) 0 0 fk_RX4_12 rfl rfl ?_
  obtain ⟨q1, h2, h⟩ := bnd h
  refine V_callV (ws' := wdX E.G a0 (xs_trial S0 q1)) C (As := [.ref (a0 4)]) (rest := []) (by decide +kernel) ok_yX1_takeOver mk_RX4_170 (cfX1_takeOver (l := E.l) (G := E.G) (fun j => a0 (12 + j)) (fun j => a0 (4 + j)) h2) [12, 13, 14, 15, 4, 5, 6, 7] (q0 := 0) rfl rfl rfl rfl rfl rfl rfl rfl rfl (Nat.le_of_ble_eq_true rfl) (Nat.le_of_ble_eq_true rfl) (Nat.le_of_ble_eq_true rfl) ?_
  show V E _ (wdX E.G a0 (xs_trial S0 q1)) 15 [(0, .ref (a0 0)), (1, .int (cI (-1))), (2, .int (0 : Int32))] []
  refine V_pb C hn [(.iconst 0, 1), (.istore_n 3, 1)] (pc' := 17) (ls' := [(0, .ref (a0 0)), (1, .int (cI (-1))), (2, .int (0 : Int32)), (3, .int (0 : Int32))]) (st' := []) (decB_ok (by decide +kernel)) rfl rfl ?_
  refine V_sub (ls' := [(0, .ref (a0 0)), (1, .int (cI (-1))), (2, .int (0 : Int32)), (3, .int (0 : Int32))]) rfl ?_
  exact cfX4_bestTime_L17 C hn FU _ _ _ _ h
set_option maxRecDepth 100000 in
set_option maxHeartbeats 400000 in
theorem cfX4_when {l : Launch} {G : GG} (a0 : Nat → Nat) {p1 : Int32} {S0 : XT} {out : Int32 × XT} (h : fX4_when p1 S0 = some out) : Con l G 5 yX4_when cX4_when 2 (some .int) [.ref (a0 0), .int p1] (wdX G a0 S0) (some (.int out.1)) (wdX G a0 out.2) := by
  refine Con_of (by decide +kernel) (Nat.le_of_ble_eq_true rfl) (fun E hl hG hn C => ?_)
  subst hl
  subst hG
  have C : Ctx E cX4_when RX4 5 (some .int) := C
  show V E _ _ 0 [(0, .ref (a0 0)), (1, .int p1)] []
  unfold fX4_when at h
  refine V_pb C hn [(.iload_n 1, 1)] (pc' := 1) (ls' := [(0, .ref (a0 0)), (1, .int p1)]) (st' := [.int p1]) (decB_ok (by decide +kernel)) rfl rfl ?_
  refine V_sw (0) ?_
  refine Sw_at C (dflt := 53) (lo := 0) (hi := 2) (offs := #[27, 32, 37]) (len := 27) (off := 27) (v := (0 : Int32)) (tgt := 28) (by decide +kernel) (by decide) (by decide) (by decide) rfl (by decide) h (fun _ h => ?_) (fun _ h => ?_)
  · refine V_pb C hn [(.aload_n 0, 1)] (pc' := 29) (ls' := [(0, .ref (a0 0)), (1, .int p1)]) (st' := [.ref (a0 0)]) (decB_ok (by decide +kernel)) rfl rfl ?_
    obtain ⟨q1, h2, h⟩ := bnd h
    refine V_callV0 C (As := []) (rest := []) (by decide +kernel) ok_yX4_firstCarried mk_RX4_214 (cfX4_firstCarried (l := E.l) (G := E.G) a0 h2) (q0 := 0) rfl rfl rfl rfl rfl rfl (Nat.le_of_ble_eq_true rfl) (Nat.le_of_ble_eq_true rfl) (Nat.le_of_ble_eq_true rfl) ?_
    show V E _ (wdX E.G a0 q1.2) 32 [(0, .ref (a0 0)), (1, .int p1)] [.int q1.1]
    have h := Option.some.inj h
    subst h
    exact V_iret C (by decide +kernel) rfl
  refine Sw_at C (dflt := 53) (lo := 0) (hi := 2) (offs := #[27, 32, 37]) (len := 27) (off := 32) (v := (1 : Int32)) (tgt := 33) (by decide +kernel) (by decide) (by decide) (by decide) rfl (by decide) h (fun _ h => ?_) (fun _ h => ?_)
  · refine V_pb C hn [(.aload_n 0, 1)] (pc' := 34) (ls' := [(0, .ref (a0 0)), (1, .int p1)]) (st' := [.ref (a0 0)]) (decB_ok (by decide +kernel)) rfl rfl ?_
    obtain ⟨q3, h4, h⟩ := bnd h
    refine V_callV0 C (As := []) (rest := []) (by decide +kernel) ok_yX4_bestTime mk_RX4_217 (cfX4_bestTime (l := E.l) (G := E.G) a0 h4) (q0 := 0) rfl rfl rfl rfl rfl rfl (Nat.le_of_ble_eq_true rfl) (Nat.le_of_ble_eq_true rfl) (Nat.le_of_ble_eq_true rfl) ?_
    show V E _ (wdX E.G a0 q3.2) 37 [(0, .ref (a0 0)), (1, .int p1)] [.int q3.1]
    have h := Option.some.inj h
    subst h
    exact V_iret C (by decide +kernel) rfl
  refine Sw_at C (dflt := 53) (lo := 0) (hi := 2) (offs := #[27, 32, 37]) (len := 27) (off := 37) (v := (2 : Int32)) (tgt := 38) (by decide +kernel) (by decide) (by decide) (by decide) rfl (by decide) h (fun _ h => ?_) (fun _ h => ?_)
  · refine V_pb C hn [(.aload_n 0, 1), (.aload_n 0, 1)] (pc' := 40) (ls' := [(0, .ref (a0 0)), (1, .int p1)]) (st' := [.ref (a0 0), .ref (a0 0)]) (decB_ok (by decide +kernel)) rfl rfl ?_
    obtain ⟨q5, h6, h⟩ := bnd h
    refine V_callV0 C (As := []) (rest := [.ref (a0 0)]) (by decide +kernel) ok_yX4_bestTime mk_RX4_217 (cfX4_bestTime (l := E.l) (G := E.G) a0 h6) (q0 := 0) rfl rfl rfl rfl rfl rfl (Nat.le_of_ble_eq_true rfl) (Nat.le_of_ble_eq_true rfl) (Nat.le_of_ble_eq_true rfl) ?_
    show V E _ (wdX E.G a0 q5.2) 43 [(0, .ref (a0 0)), (1, .int p1)] [.int q5.1, .ref (a0 0)]
    obtain ⟨q7, h8, h⟩ := bnd h
    refine V_callV0 C (As := [.int q5.1]) (rest := []) (by decide +kernel) ok_yX4_lookAhead mk_RX4_201 (cfX4_lookAhead (l := E.l) (G := E.G) a0 h8) (q0 := 0) rfl rfl rfl rfl rfl rfl (Nat.le_of_ble_eq_true rfl) (Nat.le_of_ble_eq_true rfl) (Nat.le_of_ble_eq_true rfl) ?_
    show V E _ (wdX E.G a0 q7) 46 [(0, .ref (a0 0)), (1, .int p1)] []
    refine V_pb C hn [(.aload_n 0, 1)] (pc' := 47) (ls' := [(0, .ref (a0 0)), (1, .int p1)]) (st' := [.ref (a0 0)]) (decB_ok (by decide +kernel)) rfl rfl ?_
    refine V_get C (v := .ref (a0 12)) (by decide +kernel) 0 2 fk_RX4_19 rfl rfl ?_
    obtain ⟨q9, h10, h⟩ := bnd h
    refine V_callVp C (As := []) (rest := []) (by decide +kernel) ok_yX1_litWeight mk_RX4_204 (cfX1_litWeight (l := E.l) (G := E.G) (fun j => a0 (12 + j)) h10) [12, 13, 14, 15] (q0 := 0) rfl rfl rfl rfl rfl rfl rfl (Nat.le_of_ble_eq_true rfl) (Nat.le_of_ble_eq_true rfl) (Nat.le_of_ble_eq_true rfl) ?_
    show V E _ (wdX E.G a0 q7) 53 [(0, .ref (a0 0)), (1, .int p1)] [.int q9]
    have h := Option.some.inj h
    subst h
    exact V_iret C (by decide +kernel) rfl
  refine Sw_end C (dflt := 53) (lo := 0) (hi := 2) (offs := #[27, 32, 37]) (len := 27) (tgt := 54) (by decide +kernel) (by decide) (by decide) ?_
  refine V_pb C hn [(.aload_n 0, 1), (.bipush (-2), 2)] (pc' := 57) (ls' := [(0, .ref (a0 0)), (1, .int p1)]) (st' := [.int (cI (-2)), .ref (a0 0)]) (decB_ok (by decide +kernel)) rfl rfl ?_
  obtain ⟨q11, h12, h⟩ := bnd h
  refine V_callV0 C (As := [.int (cI (-2))]) (rest := []) (by decide +kernel) ok_yX4_refuse mk_RX4_57 (cfX4_refuse (l := E.l) (G := E.G) a0 h12) (q0 := 0) rfl rfl rfl rfl rfl rfl (Nat.le_of_ble_eq_true rfl) (Nat.le_of_ble_eq_true rfl) (Nat.le_of_ble_eq_true rfl) ?_
  show V E _ (wdX E.G a0 q11.2) 60 [(0, .ref (a0 0)), (1, .int p1)] [.int q11.1]
  have h := Option.some.inj h
  subst h
  exact V_iret C (by decide +kernel) rfl
set_option maxRecDepth 100000 in
set_option maxHeartbeats 400000 in
theorem cfX4_centre_j16 {E : VE} (C : Ctx E cX4_centre RX4 5 (some .int)) (hn : E.nL = 3) {a0 : Nat → Nat} {p1 : Int32} {p2 : Int32} {S0 : XT} {out : Int32 × XT} (h : fX4_centre_j16 p1 p2 S0 = some out) : V E (QR E (some (.int out.1)) (wdX E.G a0 out.2)) (wdX E.G a0 S0) 16 [(0, .ref (a0 0))] [] := by
  unfold fX4_centre_j16 at h
  refine V_pb C hn [(.aload_n 0, 1), (.bipush (-2), 2)] (pc' := 19) (ls' := [(0, .ref (a0 0))]) (st' := [.int (cI (-2)), .ref (a0 0)]) (decB_ok (by decide +kernel)) rfl rfl ?_
  obtain ⟨q3, h4, h⟩ := bnd h
  refine V_callV0 C (As := [.int (cI (-2))]) (rest := []) (by decide +kernel) ok_yX4_refuse mk_RX4_57 (cfX4_refuse (l := E.l) (G := E.G) a0 h4) (q0 := 0) rfl rfl rfl rfl rfl rfl (Nat.le_of_ble_eq_true rfl) (Nat.le_of_ble_eq_true rfl) (Nat.le_of_ble_eq_true rfl) ?_
  show V E _ (wdX E.G a0 q3.2) 22 [(0, .ref (a0 0))] [.int q3.1]
  have h := Option.some.inj h
  subst h
  exact V_iret C (by decide +kernel) rfl
set_option maxRecDepth 100000 in
set_option maxHeartbeats 400000 in
theorem cfX4_centre_j78 {E : VE} (C : Ctx E cX4_centre RX4 5 (some .int)) (hn : E.nL = 3) {a0 : Nat → Nat} {p1 : Int32} {p2 : Int32} {s0 : Int32} {S0 : XT} {out : Int32 × XT} (h : fX4_centre_j78 p1 p2 s0 S0 = some out) : V E (QR E (some (.int out.1)) (wdX E.G a0 out.2)) (wdX E.G a0 S0) 78 [] [.int s0, .ref (a0 12)] := by
  unfold fX4_centre_j78 at h
  obtain ⟨q9, h10, h⟩ := bnd h
  refine V_callVp C (As := [.int s0]) (rest := []) (by decide +kernel) ok_yX1_middle mk_RX4_223 (cfX1_middle (l := E.l) (G := E.G) (fun j => a0 (12 + j)) h10) [12, 13, 14, 15] (q0 := 0) rfl rfl rfl rfl rfl rfl rfl (Nat.le_of_ble_eq_true rfl) (Nat.le_of_ble_eq_true rfl) (Nat.le_of_ble_eq_true rfl) ?_
  show V E _ (wdX E.G a0 S0) 81 [] [.int q9]
  have h := Option.some.inj h
  subst h
  exact V_iret C (by decide +kernel) rfl
set_option maxRecDepth 100000 in
set_option maxHeartbeats 400000 in
theorem cfX4_centre_j45 {E : VE} (C : Ctx E cX4_centre RX4 5 (some .int)) (hn : E.nL = 3) {a0 : Nat → Nat} {p1 : Int32} {p2 : Int32} {S0 : XT} {out : Int32 × XT} (h : fX4_centre_j45 p1 p2 S0 = some out) : V E (QR E (some (.int out.1)) (wdX E.G a0 out.2)) (wdX E.G a0 S0) 45 [(0, .ref (a0 0)), (1, .int p1), (2, .int p2)] [] := by
  unfold fX4_centre_j45 at h
  refine V_pb C hn [(.aload_n 0, 1), (.iload_n 1, 1)] (pc' := 47) (ls' := [(0, .ref (a0 0)), (1, .int p1), (2, .int p2)]) (st' := [.int p1, .ref (a0 0)]) (decB_ok (by decide +kernel)) rfl rfl ?_
  obtain ⟨q5, h6, h⟩ := bnd h
  refine V_callV0 C (As := [.int p1]) (rest := []) (by decide +kernel) ok_yX4_lookAhead mk_RX4_201 (cfX4_lookAhead (l := E.l) (G := E.G) a0 h6) (q0 := 0) rfl rfl rfl rfl rfl rfl (Nat.le_of_ble_eq_true rfl) (Nat.le_of_ble_eq_true rfl) (Nat.le_of_ble_eq_true rfl) ?_
  show V E _ (wdX E.G a0 q5) 50 [(0, .ref (a0 0)), (1, .int p1), (2, .int p2)] []
  refine V_pb C hn [(.iload_n 2, 1), (.iconst 2, 1)] (pc' := 52) (ls' := [(0, .ref (a0 0)), (1, .int p1), (2, .int p2)]) (st' := [.int (2 : Int32), .int p2]) (decB_ok (by decide +kernel)) rfl rfl ?_
  refine V_ic_ne C (off := 13) (tgt := 65) (by decide +kernel) (by decide) h (fun _ h => ?_) (fun _ h => ?_)
  · refine V_pb C hn [(.aload_n 0, 1)] (pc' := 56) (ls' := [(0, .ref (a0 0)), (1, .int p1), (2, .int p2)]) (st' := [.ref (a0 0)]) (decB_ok (by decide +kernel)) rfl rfl ?_
    refine V_get C (v := .ref (a0 12)) (by decide +kernel) 0 2 fk_RX4_19 rfl rfl ?_
    obtain ⟨q7, h8, h⟩ := bnd h
    refine V_callVp C (As := []) (rest := []) (by decide +kernel) ok_yX1_spread mk_RX4_220 (cfX1_spread (l := E.l) (G := E.G) (fun j => a0 (12 + j)) h8) [12, 13, 14, 15] (q0 := 0) rfl rfl rfl rfl rfl rfl rfl (Nat.le_of_ble_eq_true rfl) (Nat.le_of_ble_eq_true rfl) (Nat.le_of_ble_eq_true rfl) ?_
    show V E _ (wdX E.G a0 q5) 62 [(0, .ref (a0 0)), (1, .int p1), (2, .int p2)] [.int q7]
    refine V_goto C (off := 19) (tgt := 81) (by decide +kernel) (by decide) ?_
    have h := Option.some.inj h
    subst h
    exact V_iret C (by decide +kernel) rfl
  · refine V_pb C hn [(.aload_n 0, 1)] (pc' := 66) (ls' := [(0, .ref (a0 0)), (1, .int p1), (2, .int p2)]) (st' := [.ref (a0 0)]) (decB_ok (by decide +kernel)) rfl rfl ?_
    refine V_get C (v := .ref (a0 12)) (by decide +kernel) 0 2 fk_RX4_19 rfl rfl ?_
    refine V_pb C hn [(.iload_n 2, 1)] (pc' := 70) (ls' := [(0, .ref (a0 0)), (1, .int p1), (2, .int p2)]) (st' := [.int p2, .ref (a0 12)]) (decB_ok (by decide +kernel)) rfl rfl ?_
    refine V_if_ne C (off := 7) (tgt := 77) (by decide +kernel) (by decide) h (fun _ h => ?_) (fun _ h => ?_)
    · refine V_pb C hn [(.iconst 1, 1)] (pc' := 74) (ls' := [(0, .ref (a0 0)), (1, .int p1), (2, .int p2)]) (st' := [.int (1 : Int32), .ref (a0 12)]) (decB_ok (by decide +kernel)) rfl rfl ?_
      refine V_goto C (off := 4) (tgt := 78) (by decide +kernel) (by decide) ?_
      refine V_sub (ls' := []) rfl ?_
      exact cfX4_centre_j78 C hn h
    · refine V_pb C hn [(.iconst 0, 1)] (pc' := 78) (ls' := [(0, .ref (a0 0)), (1, .int p1), (2, .int p2)]) (st' := [.int (0 : Int32), .ref (a0 12)]) (decB_ok (by decide +kernel)) rfl rfl ?_
      refine V_sub (ls' := []) rfl ?_
      exact cfX4_centre_j78 C hn h
set_option maxRecDepth 100000 in
set_option maxHeartbeats 400000 in
theorem cfX4_centre {l : Launch} {G : GG} (a0 : Nat → Nat) {p1 : Int32} {p2 : Int32} {S0 : XT} {out : Int32 × XT} (h : fX4_centre p1 p2 S0 = some out) : Con l G 5 yX4_centre cX4_centre 3 (some .int) [.ref (a0 0), .int p1, .int p2] (wdX G a0 S0) (some (.int out.1)) (wdX G a0 out.2) := by
  refine Con_of (by decide +kernel) (Nat.le_of_ble_eq_true rfl) (fun E hl hG hn C => ?_)
  subst hl
  subst hG
  have C : Ctx E cX4_centre RX4 5 (some .int) := C
  show V E _ _ 0 [(0, .ref (a0 0)), (1, .int p1), (2, .int p2)] []
  unfold fX4_centre at h
  refine V_pb C hn [(.iload_n 1, 1)] (pc' := 1) (ls' := [(0, .ref (a0 0)), (1, .int p1), (2, .int p2)]) (st' := [.int p1]) (decB_ok (by decide +kernel)) rfl rfl ?_
  obtain ⟨q1, h2, h⟩ := bnd h
  refine V_callSp C (As := [.int p1]) (rest := []) (by decide +kernel) ok_yX4_isTime mk_RX4_194 (cfX4_isTime (l := E.l) (G := E.G) h2) [] rfl rfl rfl rfl (Nat.le_of_ble_eq_true rfl) (Nat.le_of_ble_eq_true rfl) (Nat.le_of_ble_eq_true rfl) ?_
  show V E _ (wdX E.G a0 S0) 4 [(0, .ref (a0 0)), (1, .int p1), (2, .int p2)] [.int q1]
  refine V_if_eq C (off := 12) (tgt := 16) (by decide +kernel) (by decide) h (fun _ h => ?_) (fun _ h => ?_)
  · refine V_sub (ls' := [(0, .ref (a0 0))]) rfl ?_
    exact cfX4_centre_j16 C hn h
  · refine V_pb C hn [(.iload_n 2, 1)] (pc' := 8) (ls' := [(0, .ref (a0 0)), (1, .int p1), (2, .int p2)]) (st' := [.int p2]) (decB_ok (by decide +kernel)) rfl rfl ?_
    refine V_if_lt C (off := 8) (tgt := 16) (by decide +kernel) (by decide) h (fun _ h => ?_) (fun _ h => ?_)
    · refine V_sub (ls' := [(0, .ref (a0 0))]) rfl ?_
      exact cfX4_centre_j16 C hn h
    · refine V_pb C hn [(.iload_n 2, 1), (.iconst 2, 1)] (pc' := 13) (ls' := [(0, .ref (a0 0)), (1, .int p1), (2, .int p2)]) (st' := [.int (2 : Int32), .int p2]) (decB_ok (by decide +kernel)) rfl rfl ?_
      refine V_ic_le C (off := 10) (tgt := 23) (by decide +kernel) (by decide) h (fun _ h => ?_) (fun _ h => ?_)
      · refine V_pb C hn [(.iload_n 2, 1), (.iconst 2, 1)] (pc' := 25) (ls' := [(0, .ref (a0 0)), (1, .int p1), (2, .int p2)]) (st' := [.int (2 : Int32), .int p2]) (decB_ok (by decide +kernel)) rfl rfl ?_
        refine V_ic_ge C (off := 20) (tgt := 45) (by decide +kernel) (by decide) h (fun _ h => ?_) (fun _ h => ?_)
        · refine V_sub (ls' := [(0, .ref (a0 0)), (1, .int p1), (2, .int p2)]) rfl ?_
          exact cfX4_centre_j45 C hn h
        · refine V_pb C hn [(.aload_n 0, 1)] (pc' := 29) (ls' := [(0, .ref (a0 0)), (1, .int p1), (2, .int p2)]) (st' := [.ref (a0 0)]) (decB_ok (by decide +kernel)) rfl rfl ?_
          refine V_get C (v := .ref (a0 4)) (by decide +kernel) 0 0 fk_RX4_12 rfl rfl ?_
          refine V_get C (v := .int (h_count (x_now S0))) (by decide +kernel) 4 1 fk_RX4_146 rfl rfl ?_
          refine V_if_ne C (off := 10) (tgt := 45) (by decide +kernel) (by decide) h (fun _ h => ?_) (fun _ h => ?_)
          · refine V_pb C hn [(.aload_n 0, 1), (.bipush (-5), 2)] (pc' := 41) (ls' := [(0, .ref (a0 0)), (1, .int p1), (2, .int p2)]) (st' := [.int (cI (-5)), .ref (a0 0)]) (decB_ok (by decide +kernel)) rfl rfl ?_
            obtain ⟨q11, h12, h⟩ := bnd h
            refine V_callV0 C (As := [.int (cI (-5))]) (rest := []) (by decide +kernel) ok_yX4_refuse mk_RX4_57 (cfX4_refuse (l := E.l) (G := E.G) a0 h12) (q0 := 0) rfl rfl rfl rfl rfl rfl (Nat.le_of_ble_eq_true rfl) (Nat.le_of_ble_eq_true rfl) (Nat.le_of_ble_eq_true rfl) ?_
            show V E _ (wdX E.G a0 q11.2) 44 [(0, .ref (a0 0)), (1, .int p1), (2, .int p2)] [.int q11.1]
            have h := Option.some.inj h
            subst h
            exact V_iret C (by decide +kernel) rfl
          · refine V_sub (ls' := [(0, .ref (a0 0)), (1, .int p1), (2, .int p2)]) rfl ?_
            exact cfX4_centre_j45 C hn h
      · refine V_sub (ls' := [(0, .ref (a0 0))]) rfl ?_
        exact cfX4_centre_j16 C hn h
set_option maxRecDepth 100000 in
set_option maxHeartbeats 400000 in
theorem cfX4_crowd_j18 {E : VE} (C : Ctx E cX4_crowd RX4 5 (some .int)) (hn : E.nL = 3) {a0 : Nat → Nat} {p1 : Int32} {p2 : Int32} {S0 : XT} {out : Int32 × XT} (h : fX4_crowd_j18 p1 p2 S0 = some out) : V E (QR E (some (.int out.1)) (wdX E.G a0 out.2)) (wdX E.G a0 S0) 18 [(0, .ref (a0 0))] [] := by
  unfold fX4_crowd_j18 at h
  refine V_pb C hn [(.aload_n 0, 1), (.bipush (-2), 2)] (pc' := 21) (ls' := [(0, .ref (a0 0))]) (st' := [.int (cI (-2)), .ref (a0 0)]) (decB_ok (by decide +kernel)) rfl rfl ?_
  obtain ⟨q3, h4, h⟩ := bnd h
  refine V_callV0 C (As := [.int (cI (-2))]) (rest := []) (by decide +kernel) ok_yX4_refuse mk_RX4_57 (cfX4_refuse (l := E.l) (G := E.G) a0 h4) (q0 := 0) rfl rfl rfl rfl rfl rfl (Nat.le_of_ble_eq_true rfl) (Nat.le_of_ble_eq_true rfl) (Nat.le_of_ble_eq_true rfl) ?_
  show V E _ (wdX E.G a0 q3.2) 24 [(0, .ref (a0 0))] [.int q3.1]
  have h := Option.some.inj h
  subst h
  exact V_iret C (by decide +kernel) rfl
set_option maxRecDepth 100000 in
set_option maxHeartbeats 400000 in
theorem cfX4_crowd {l : Launch} {G : GG} (a0 : Nat → Nat) {p1 : Int32} {p2 : Int32} {S0 : XT} {out : Int32 × XT} (h : fX4_crowd p1 p2 S0 = some out) : Con l G 5 yX4_crowd cX4_crowd 3 (some .int) [.ref (a0 0), .int p1, .int p2] (wdX G a0 S0) (some (.int out.1)) (wdX G a0 out.2) := by
  refine Con_of (by decide +kernel) (Nat.le_of_ble_eq_true rfl) (fun E hl hG hn C => ?_)
  subst hl
  subst hG
  have C : Ctx E cX4_crowd RX4 5 (some .int) := C
  show V E _ _ 0 [(0, .ref (a0 0)), (1, .int p1), (2, .int p2)] []
  unfold fX4_crowd at h
  refine V_pb C hn [(.aload_n 0, 1)] (pc' := 1) (ls' := [(0, .ref (a0 0)), (1, .int p1), (2, .int p2)]) (st' := [.ref (a0 0)]) (decB_ok (by decide +kernel)) rfl rfl ?_
  refine V_get C (v := .ref (a0 4)) (by decide +kernel) 0 0 fk_RX4_12 rfl rfl ?_
  refine V_pb C hn [(.iload_n 1, 1)] (pc' := 5) (ls' := [(0, .ref (a0 0)), (1, .int p1), (2, .int p2)]) (st' := [.int p1, .ref (a0 4)]) (decB_ok (by decide +kernel)) rfl rfl ?_
  obtain ⟨q1, h2, h⟩ := bnd h
  refine V_callVp C (As := [.int p1]) (rest := []) (by decide +kernel) ok_yX1_isCell mk_RX4_135 (cfX1_isCell (l := E.l) (G := E.G) (fun j => a0 (4 + j)) h2) [4, 5, 6, 7] (q0 := 0) rfl rfl rfl rfl rfl rfl rfl (Nat.le_of_ble_eq_true rfl) (Nat.le_of_ble_eq_true rfl) (Nat.le_of_ble_eq_true rfl) ?_
  show V E _ (wdX E.G a0 S0) 8 [(0, .ref (a0 0)), (1, .int p1), (2, .int p2)] [.int q1]
  refine V_if_eq C (off := 10) (tgt := 18) (by decide +kernel) (by decide) h (fun _ h => ?_) (fun _ h => ?_)
  · refine V_sub (ls' := [(0, .ref (a0 0))]) rfl ?_
    exact cfX4_crowd_j18 C hn h
  · refine V_pb C hn [(.iload_n 2, 1)] (pc' := 12) (ls' := [(0, .ref (a0 0)), (1, .int p1), (2, .int p2)]) (st' := [.int p2]) (decB_ok (by decide +kernel)) rfl rfl ?_
    obtain ⟨q5, h6, h⟩ := bnd h
    refine V_callSp C (As := [.int p2]) (rest := []) (by decide +kernel) ok_yX4_isTime mk_RX4_194 (cfX4_isTime (l := E.l) (G := E.G) h6) [] rfl rfl rfl rfl (Nat.le_of_ble_eq_true rfl) (Nat.le_of_ble_eq_true rfl) (Nat.le_of_ble_eq_true rfl) ?_
    show V E _ (wdX E.G a0 S0) 15 [(0, .ref (a0 0)), (1, .int p1), (2, .int p2)] [.int q5]
    refine V_if_ne C (off := 10) (tgt := 25) (by decide +kernel) (by decide) h (fun _ h => ?_) (fun _ h => ?_)
    · refine V_sub (ls' := [(0, .ref (a0 0))]) rfl ?_
      exact cfX4_crowd_j18 C hn h
    · refine V_pb C hn [(.aload_n 0, 1), (.iload_n 2, 1)] (pc' := 27) (ls' := [(0, .ref (a0 0)), (1, .int p1), (2, .int p2)]) (st' := [.int p2, .ref (a0 0)]) (decB_ok (by decide +kernel)) rfl rfl ?_
      obtain ⟨q7, h8, h⟩ := bnd h
      refine V_callV0 C (As := [.int p2]) (rest := []) (by decide +kernel) ok_yX4_lookAhead mk_RX4_201 (cfX4_lookAhead (l := E.l) (G := E.G) a0 h8) (q0 := 0) rfl rfl rfl rfl rfl rfl (Nat.le_of_ble_eq_true rfl) (Nat.le_of_ble_eq_true rfl) (Nat.le_of_ble_eq_true rfl) ?_
      show V E _ (wdX E.G a0 q7) 30 [(0, .ref (a0 0)), (1, .int p1), (2, .int p2)] []
      refine V_pb C hn [(.aload_n 0, 1)] (pc' := 31) (ls' := [(0, .ref (a0 0)), (1, .int p1), (2, .int p2)]) (st' := [.ref (a0 0)]) (decB_ok (by decide +kernel)) rfl rfl ?_
      refine V_get C (v := .ref (a0 12)) (by decide +kernel) 0 2 fk_RX4_19 rfl rfl ?_
      refine V_pb C hn [(.iload_n 1, 1)] (pc' := 35) (ls' := [(0, .ref (a0 0)), (1, .int p1), (2, .int p2)]) (st' := [.int p1, .ref (a0 12)]) (decB_ok (by decide +kernel)) rfl rfl ?_
      obtain ⟨q9, h10, h⟩ := bnd h
      refine V_callVp C (As := [.int p1]) (rest := []) (by decide +kernel) ok_yX1_countIn mk_RX4_226 (cfX1_countIn (l := E.l) (G := E.G) (fun j => a0 (12 + j)) h10) [12, 13, 14, 15] (q0 := 0) rfl rfl rfl rfl rfl rfl rfl (Nat.le_of_ble_eq_true rfl) (Nat.le_of_ble_eq_true rfl) (Nat.le_of_ble_eq_true rfl) ?_
      show V E _ (wdX E.G a0 q7) 38 [(0, .ref (a0 0)), (1, .int p1), (2, .int p2)] [.int q9]
      have h := Option.some.inj h
      subst h
      exact V_iret C (by decide +kernel) rfl
