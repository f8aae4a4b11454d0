set_option maxRecDepth 100000 in
set_option maxHeartbeats 400000 in
theorem cfX5_within {l : Launch} {G : GG} {p0 : Int32} {p1 : Int32} {p2 : Int32} {out : Int32} (h : fX5_within p0 p1 p2 = some out) : Con l G 0 yX5_within cX5_within 3 (some .boolean) [.int p0, .int p1, .int p2] (([] : va_W)) (some (.int out)) (([] : va_W)) := by
  refine Con_of (by decide +kernel) (Nat.le_of_ble_eq_true rfl) (fun E hl hG hn C => ?_)
  subst hl
  subst hG
  have C : Ctx E cX5_within RX5 0 (some .boolean) := C
  show V E _ _ 0 [(0, .int p0), (1, .int p1), (2, .int p2)] []
  unfold fX5_within at h
  refine V_pb C hn [(.iload_n 0, 1), (.iload_n 1, 1)] (pc' := 2) (ls' := [(0, .int p0), (1, .int p1), (2, .int p2)]) (st' := [.int p1, .int p0]) (decB_ok (by decide +kernel)) rfl rfl ?_
  refine V_ic_lt C (off := 12) (tgt := 14) (by decide +kernel) (by decide) h (fun _ h => ?_) (fun _ h => ?_)
  · refine V_pb C hn [(.iconst 0, 1)] (pc' := 15) (ls' := [(0, .int p0), (1, .int p1), (2, .int p2)]) (st' := [.int (0 : Int32)]) (decB_ok (by decide +kernel)) rfl rfl ?_
    have h := Option.some.inj h
    subst h
    exact V_iret C (v := (0 : Int32)) (by decide +kernel) nb0
  · refine V_pb C hn [(.iload_n 0, 1), (.iload_n 2, 1)] (pc' := 7) (ls' := [(0, .int p0), (1, .int p1), (2, .int p2)]) (st' := [.int p2, .int p0]) (decB_ok (by decide +kernel)) rfl rfl ?_
    refine V_ic_gt C (off := 7) (tgt := 14) (by decide +kernel) (by decide) h (fun _ h => ?_) (fun _ h => ?_)
    · refine V_pb C hn [(.iconst 0, 1)] (pc' := 15) (ls' := [(0, .int p0), (1, .int p1), (2, .int p2)]) (st' := [.int (0 : Int32)]) (decB_ok (by decide +kernel)) rfl rfl ?_
      have h := Option.some.inj h
      subst h
      exact V_iret C (v := (0 : Int32)) (by decide +kernel) nb0
    · refine V_pb C hn [(.iconst 1, 1)] (pc' := 11) (ls' := [(0, .int p0), (1, .int p1), (2, .int p2)]) (st' := [.int (1 : Int32)]) (decB_ok (by decide +kernel)) rfl rfl ?_
      refine V_goto C (off := 4) (tgt := 15) (by decide +kernel) (by decide) ?_
      have h := Option.some.inj h
      subst h
      exact V_iret C (v := (1 : Int32)) (by decide +kernel) nb1
set_option maxRecDepth 100000 in
set_option maxHeartbeats 400000 in
theorem cfX5_isShelf {l : Launch} {G : GG} {p0 : Int32} {out : Int32} (h : fX5_isShelf p0 = some out) : Con l G 1 yX5_isShelf cX5_isShelf 1 (some .boolean) [.int p0] (([] : va_W)) (some (.int out)) (([] : va_W)) := by
  refine Con_of (by decide +kernel) (Nat.le_of_ble_eq_true rfl) (fun E hl hG hn C => ?_)
  subst hl
  subst hG
  have C : Ctx E cX5_isShelf RX5 1 (some .boolean) := C
  show V E _ _ 0 [(0, .int p0)] []
  unfold fX5_isShelf at h
  refine V_pb C hn [(.iload_n 0, 1), (.iconst 0, 1), (.bipush 7, 2)] (pc' := 4) (ls' := [(0, .int p0)]) (st' := [.int (7 : Int32), .int (0 : Int32), .int p0]) (decB_ok (by decide +kernel)) rfl rfl ?_
  obtain ⟨q1, h2, h⟩ := bnd h
  refine V_callSp C (As := [.int p0, .int (0 : Int32), .int (7 : Int32)]) (rest := []) (by decide +kernel) ok_yX5_within mk_RX5_63 (cfX5_within (l := E.l) (G := E.G) h2) [] rfl rfl rfl rfl (Nat.le_of_ble_eq_true rfl) (Nat.le_of_ble_eq_true rfl) (Nat.le_of_ble_eq_true rfl) ?_
  show V E _ (([] : va_W)) 7 [(0, .int p0)] [.int q1]
  obtain ⟨hb9, h⟩ := gd_some h
  have h := Option.some.inj h
  subst h
  exact V_iret C (by decide +kernel) (isb_nar hb9)
set_option maxRecDepth 100000 in
set_option maxHeartbeats 400000 in
theorem cfX5_no {l : Launch} {G : GG} (a0 : Nat → Nat) {p1 : Int32} {S0 : MT} {out : Int32 × MT} (h : fX5_no p1 S0 = some out) : Con l G 0 yX5_no cX5_no 2 (some .int) [.ref (a0 0), .int p1] (wdM G a0 S0) (some (.int out.1)) (wdM G a0 out.2) := by
  refine Con_of (by decide +kernel) (Nat.le_of_ble_eq_true rfl) (fun E hl hG hn C => ?_)
  subst hl
  subst hG
  have C : Ctx E cX5_no RX5 0 (some .int) := C
  show V E _ _ 0 [(0, .ref (a0 0)), (1, .int p1)] []
  unfold fX5_no at h
  refine V_pb C hn [(.aload_n 0, 1)] (pc' := 1) (ls' := [(0, .ref (a0 0)), (1, .int p1)]) (st' := [.ref (a0 0)]) (decB_ok (by decide +kernel)) rfl rfl ?_
  refine V_get C (v := .ref (a0 9)) (by decide +kernel) 0 17 fk_RX5_35 rfl rfl ?_
  refine V_pb C hn [(.iload_n 1, 1), (.ineg, 1), (.dup2, 1)] (pc' := 7) (ls' := [(0, .ref (a0 0)), (1, .int p1)]) (st' := [.int (-p1), .ref (a0 9), .int (-p1), .ref (a0 9)]) (decB_ok (by decide +kernel)) rfl rfl ?_
  refine V_iald C (f := (m_refusals S0)) (by decide +kernel) 9 rfl h (fun h => ?_)
  refine V_pb C hn [(.iconst 1, 1), (.iadd, 1)] (pc' := 10) (ls' := [(0, .ref (a0 0)), (1, .int p1)]) (st' := [.int (((m_refusals S0) (ix (-p1))) + (1 : Int32)), .int (-p1), .ref (a0 9)]) (decB_ok (by decide +kernel)) rfl rfl ?_
  obtain ⟨x1, e2, h⟩ := bnd h
  refine V_topi e2 ?_
  obtain ⟨x3, e4, h⟩ := bnd h
  refine V_top2 e4 ?_
  refine V_iast C (f := (m_refusals S0)) (ws' := wdM E.G a0 (ms_refusals S0 (upd (m_refusals S0) (ix x3) x1))) (by decide +kernel) 9 rfl h rfl (fun h => ?_)
  refine V_pb C hn [(.iload_n 1, 1)] (pc' := 12) (ls' := [(0, .ref (a0 0)), (1, .int p1)]) (st' := [.int p1]) (decB_ok (by decide +kernel)) rfl rfl ?_
  have h := Option.some.inj h
  subst h
  exact V_iret C (by decide +kernel) rfl
set_option maxRecDepth 100000 in
set_option maxHeartbeats 400000 in
theorem cfX5_row_j26 {E : VE} (C : Ctx E cX5_row RX5 2 (some .int)) (hn : E.nL = 5) {a0 : Nat → Nat} {p1 : Int32} {p2 : Int32} {p3 : Int32} {S0 : MT} {out : Int32 × MT} (h : fX5_row_j26 p1 p2 p3 S0 = some out) : V E (QR E (some (.int out.1)) (wdM E.G a0 out.2)) (wdM E.G a0 S0) 26 [(0, .ref (a0 0))] [] := by
  unfold fX5_row_j26 at h
  refine V_pb C hn [(.aload_n 0, 1), (.bipush (-2), 2)] (pc' := 29) (ls' := [(0, .ref (a0 0))]) (st' := [.int (cI (-2)), .ref (a0 0)]) (decB_ok (by decide +kernel)) rfl rfl ?_
  obtain ⟨q3, h4, h⟩ := bnd h
  refine V_callV0 C (As := [.int (cI (-2))]) (rest := []) (by decide +kernel) ok_yX5_no mk_RX5_77 (cfX5_no (l := E.l) (G := E.G) a0 h4) (q0 := 0) rfl rfl rfl rfl rfl rfl (Nat.le_of_ble_eq_true rfl) (Nat.le_of_ble_eq_true rfl) (Nat.le_of_ble_eq_true rfl) ?_
  show V E _ (wdM E.G a0 q3.2) 32 [(0, .ref (a0 0))] [.int q3.1]
  have h := Option.some.inj h
  subst h
  exact V_iret C (by decide +kernel) rfl
set_option maxRecDepth 100000 in
set_option maxHeartbeats 400000 in
theorem cfX5_row_L50 {E : VE} (C : Ctx E cX5_row RX5 2 (some .int)) (hn : E.nL = 5) {a0 : Nat → Nat} {p1 : Int32} {p2 : Int32} {p3 : Int32} {out : Int32 × MT} : ∀ (n : Nat) (v4 : Int32) (S0 : MT), fX5_row_L50 p1 p2 p3 n v4 S0 = some out → V E (QR E (some (.int out.1)) (wdM E.G a0 out.2)) (wdM E.G a0 S0) 50 [(0, .ref (a0 0)), (1, .int p1), (4, .int v4)] [] := by
  intro n
  induction n with
  | zero =>
    intro v4 S0 h
    cases h
  | succ n ih =>
    intro v4 S0 h
    unfold fX5_row_L50 at h
    refine V_pb C hn [(.iload 4, 2), (.bipush 40, 2)] (pc' := 54) (ls' := [(0, .ref (a0 0)), (1, .int p1), (4, .int v4)]) (st' := [.int (40 : Int32), .int v4]) (decB_ok (by decide +kernel)) rfl rfl ?_
    refine V_ic_ge C (off := 22) (tgt := 76) (by decide +kernel) (by decide) h (fun _ h => ?_) (fun _ h => ?_)
    · refine V_pb C hn [(.iconst 1, 1)] (pc' := 77) (ls' := [(0, .ref (a0 0)), (1, .int p1), (4, .int v4)]) (st' := [.int (1 : Int32)]) (decB_ok (by decide +kernel)) rfl rfl ?_
      have h := Option.some.inj h
      subst h
      exact V_iret C (by decide +kernel) rfl
    · refine V_pb C hn [(.aload_n 0, 1)] (pc' := 58) (ls' := [(0, .ref (a0 0)), (1, .int p1), (4, .int v4)]) (st' := [.ref (a0 0)]) (decB_ok (by decide +kernel)) rfl rfl ?_
      refine V_get C (v := .ref (a0 8)) (by decide +kernel) 0 16 fk_RX5_31 rfl rfl ?_
      refine V_pb C hn [(.bipush 40, 2), (.iload_n 1, 1), (.imul, 1), (.iload 4, 2), (.iadd, 1), (.lconst 0, 1)] (pc' := 69) (ls' := [(0, .ref (a0 0)), (1, .int p1), (4, .int v4)]) (st' := [.long (0 : Int64), .int (((40 : Int32) * p1) + v4), .ref (a0 8)]) (decB_ok (by decide +kernel)) rfl rfl ?_
      obtain ⟨x13, e14, h⟩ := bnd h
      refine V_top2 e14 ?_
      obtain ⟨hb9, h⟩ := gd_some h
      obtain ⟨w15, e16, h⟩ := bnd h
      refine V_last C (f := (m_rowOf S0)) (ws' := wdM E.G a0 w15) (by decide +kernel) 8 rfl (o := some ()) (out := ()) (by rw [hb9]; rfl) (by cases e16; rfl) (fun _ => ?_)
      refine V_pb C hn [(.iinc 4 1, 3)] (pc' := 73) (ls' := [(0, .ref (a0 0)), (1, .int p1), (4, .int (v4 + (1 : Int32)))]) (st' := []) (decB_ok (by decide +kernel)) rfl rfl ?_
      refine V_goto C (off := -23) (tgt := 50) (by decide +kernel) (by decide) ?_
      refine V_sub (ls' := [(0, .ref (a0 0)), (1, .int p1), (4, .int (v4 + (1 : Int32)))]) rfl ?_
      exact ih _ _ h
set_option maxRecDepth 100000 in
set_option maxHeartbeats 400000 in
theorem cfX5_row {l : Launch} {G : GG} (a0 : Nat → Nat) {p1 : Int32} {p2 : Int32} {p3 : Int32} {S0 : MT} {out : Int32 × MT} (h : fX5_row p1 p2 p3 S0 = some out) : Con l G 2 yX5_row cX5_row 5 (some .int) [.ref (a0 0), .int p1, .int p2, .int p3] (wdM G a0 S0) (some (.int out.1)) (wdM G a0 out.2) := by
  refine Con_of (by decide +kernel) (Nat.le_of_ble_eq_true rfl) (fun E hl hG hn C => ?_)
  subst hl
  subst hG
  have C : Ctx E cX5_row RX5 2 (some .int) := C
  show V E _ _ 0 [(0, .ref (a0 0)), (1, .int p1), (2, .int p2), (3, .int p3)] []
  unfold fX5_row at h
  refine V_pb C hn [(.iload_n 1, 1)] (pc' := 1) (ls' := [(0, .ref (a0 0)), (1, .int p1), (2, .int p2), (3, .int p3)]) (st' := [.int p1]) (decB_ok (by decide +kernel)) rfl rfl ?_
  obtain ⟨q1, h2, h⟩ := bnd h
  refine V_callSp C (As := [.int p1]) (rest := []) (by decide +kernel) ok_yX5_isShelf mk_RX5_73 (cfX5_isShelf (l := E.l) (G := E.G) h2) [] rfl rfl rfl rfl (Nat.le_of_ble_eq_true rfl) (Nat.le_of_ble_eq_true rfl) (Nat.le_of_ble_eq_true rfl) ?_
  show V E _ (wdM E.G a0 S0) 4 [(0, .ref (a0 0)), (1, .int p1), (2, .int p2), (3, .int p3)] [.int q1]
  refine V_if_eq C (off := 22) (tgt := 26) (by decide +kernel) (by decide) h (fun _ h => ?_) (fun _ h => ?_)
  · refine V_sub (ls' := [(0, .ref (a0 0))]) rfl ?_
    exact cfX5_row_j26 C hn h
  · refine V_pb C hn [(.iload_n 2, 1), (.iconst 0, 1), (.iconst 4, 1)] (pc' := 10) (ls' := [(0, .ref (a0 0)), (1, .int p1), (2, .int p2), (3, .int p3)]) (st' := [.int (4 : Int32), .int (0 : Int32), .int p2]) (decB_ok (by decide +kernel)) rfl rfl ?_
    obtain ⟨q5, h6, h⟩ := bnd h
    refine V_callSp C (As := [.int p2, .int (0 : Int32), .int (4 : Int32)]) (rest := []) (by decide +kernel) ok_yX5_within mk_RX5_63 (cfX5_within (l := E.l) (G := E.G) h6) [] rfl rfl rfl rfl (Nat.le_of_ble_eq_true rfl) (Nat.le_of_ble_eq_true rfl) (Nat.le_of_ble_eq_true rfl) ?_
    show V E _ (wdM E.G a0 S0) 13 [(0, .ref (a0 0)), (1, .int p1), (2, .int p2), (3, .int p3)] [.int q5]
    refine V_if_eq C (off := 13) (tgt := 26) (by decide +kernel) (by decide) h (fun _ h => ?_) (fun _ h => ?_)
    · refine V_sub (ls' := [(0, .ref (a0 0))]) rfl ?_
      exact cfX5_row_j26 C hn h
    · refine V_pb C hn [(.iload_n 3, 1), (.iconst 0, 1), (.bipush 40, 2)] (pc' := 20) (ls' := [(0, .ref (a0 0)), (1, .int p1), (2, .int p2), (3, .int p3)]) (st' := [.int (40 : Int32), .int (0 : Int32), .int p3]) (decB_ok (by decide +kernel)) rfl rfl ?_
      obtain ⟨q7, h8, h⟩ := bnd h
      refine V_callSp C (As := [.int p3, .int (0 : Int32), .int (40 : Int32)]) (rest := []) (by decide +kernel) ok_yX5_within mk_RX5_63 (cfX5_within (l := E.l) (G := E.G) h8) [] rfl rfl rfl rfl (Nat.le_of_ble_eq_true rfl) (Nat.le_of_ble_eq_true rfl) (Nat.le_of_ble_eq_true rfl) ?_
      show V E _ (wdM E.G a0 S0) 23 [(0, .ref (a0 0)), (1, .int p1), (2, .int p2), (3, .int p3)] [.int q7]
      refine V_if_ne C (off := 10) (tgt := 33) (by decide +kernel) (by decide) h (fun _ h => ?_) (fun _ h => ?_)
      · refine V_sub (ls' := [(0, .ref (a0 0))]) rfl ?_
        exact cfX5_row_j26 C hn h
      · refine V_pb C hn [(.aload_n 0, 1)] (pc' := 34) (ls' := [(0, .ref (a0 0)), (1, .int p1), (2, .int p2), (3, .int p3)]) (st' := [.ref (a0 0)]) (decB_ok (by decide +kernel)) rfl rfl ?_
        refine V_get C (v := .ref (a0 6)) (by decide +kernel) 0 14 fk_RX5_25 rfl rfl ?_
        refine V_pb C hn [(.iload_n 1, 1), (.iload_n 2, 1)] (pc' := 39) (ls' := [(0, .ref (a0 0)), (1, .int p1), (2, .int p2), (3, .int p3)]) (st' := [.int p2, .int p1, .ref (a0 6)]) (decB_ok (by decide +kernel)) rfl rfl ?_
        obtain ⟨hb9, h⟩ := gd_some h
        obtain ⟨w9, e10, h⟩ := bnd h
        refine V_iast C (f := (m_holding S0)) (ws' := wdM E.G a0 w9) (by decide +kernel) 6 rfl (o := some ()) (out := ()) (by rw [hb9]; rfl) (by cases e10; rfl) (fun _ => ?_)
        refine V_pb C hn [(.aload_n 0, 1)] (pc' := 41) (ls' := [(0, .ref (a0 0)), (1, .int p1), (2, .int p2), (3, .int p3)]) (st' := [.ref (a0 0)]) (decB_ok (by decide +kernel)) rfl rfl ?_
        refine V_get C (v := .ref (a0 7)) (by decide +kernel) 0 15 fk_RX5_28 rfl rfl ?_
        refine V_pb C hn [(.iload_n 1, 1), (.iload_n 3, 1)] (pc' := 46) (ls' := [(0, .ref (a0 0)), (1, .int p1), (2, .int p2), (3, .int p3)]) (st' := [.int p3, .int p1, .ref (a0 7)]) (decB_ok (by decide +kernel)) rfl rfl ?_
        obtain ⟨hb9, h⟩ := gd_some h
        obtain ⟨w11, e12, h⟩ := bnd h
        refine V_iast C (f := (m_rowLength w9)) (ws' := wdM E.G a0 w11) (by decide +kernel) 7 rfl (o := some ()) (out := ()) (by rw [hb9]; rfl) (by cases e12; rfl) (fun _ => ?_)
        refine V_pb C hn [(.iconst 0, 1), (.istore 4, 2)] (pc' := 50) (ls' := [(0, .ref (a0 0)), (1, .int p1), (2, .int p2), (3, .int p3), (4, .int (0 : Int32))]) (st' := []) (decB_ok (by decide +kernel)) rfl rfl ?_
        refine V_sub (ls' := [(0, .ref (a0 0)), (1, .int p1), (4, .int (0 : Int32))]) rfl ?_
        exact cfX5_row_L50 C hn FU _ _ h
set_option maxRecDepth 100000 in
set_option maxHeartbeats 400000 in
theorem cfX5_isRow {l : Launch} {G : GG} (a0 : Nat → Nat) {p1 : Int32} {S0 : MT} {out : Int32} (h : fX5_isRow p1 S0 = some out) : Con l G 1 yX5_isRow cX5_isRow 2 (some .boolean) [.ref (a0 0), .int p1] (wdM G a0 S0) (some (.int out)) (wdM G a0 S0) := by
  refine Con_of (by decide +kernel) (Nat.le_of_ble_eq_true rfl) (fun E hl hG hn C => ?_)
  subst hl
  subst hG
  have C : Ctx E cX5_isRow RX5 1 (some .boolean) := C
  show V E _ _ 0 [(0, .ref (a0 0)), (1, .int p1)] []
  unfold fX5_isRow at h
  refine V_pb C hn [(.aload_n 0, 1)] (pc' := 1) (ls' := [(0, .ref (a0 0)), (1, .int p1)]) (st' := [.ref (a0 0)]) (decB_ok (by decide +kernel)) rfl rfl ?_
  refine V_get C (v := .ref (a0 6)) (by decide +kernel) 0 14 fk_RX5_25 rfl rfl ?_
  refine V_pb C hn [(.iload_n 1, 1)] (pc' := 5) (ls' := [(0, .ref (a0 0)), (1, .int p1)]) (st' := [.int p1, .ref (a0 6)]) (decB_ok (by decide +kernel)) rfl rfl ?_
  refine V_iald C (f := (m_holding S0)) (by decide +kernel) 6 rfl h (fun h => ?_)
  refine V_pb C hn [(.iconst 0, 1), (.iconst 4, 1)] (pc' := 8) (ls' := [(0, .ref (a0 0)), (1, .int p1)]) (st' := [.int (4 : Int32), .int (0 : Int32), .int ((m_holding S0) (ix p1))]) (decB_ok (by decide +kernel)) rfl rfl ?_
  obtain ⟨q1, h2, h⟩ := bnd h
  refine V_callSp C (As := [.int ((m_holding S0) (ix p1)), .int (0 : Int32), .int (4 : Int32)]) (rest := []) (by decide +kernel) ok_yX5_within mk_RX5_63 (cfX5_within (l := E.l) (G := E.G) h2) [] rfl rfl rfl rfl (Nat.le_of_ble_eq_true rfl) (Nat.le_of_ble_eq_true rfl) (Nat.le_of_ble_eq_true rfl) ?_
  show V E _ (wdM E.G a0 S0) 11 [(0, .ref (a0 0)), (1, .int p1)] [.int q1]
  obtain ⟨hb9, h⟩ := gd_some h
  have h := Option.some.inj h
  subst h
  exact V_iret C (by decide +kernel) (isb_nar hb9)
set_option maxRecDepth 100000 in
set_option maxHeartbeats 400000 in
theorem cfX5_noRow {l : Launch} {G : GG} (a0 : Nat → Nat) {p1 : Int32} {S0 : MT} {out : Int32} (h : fX5_noRow p1 S0 = some out) : Con l G 0 yX5_noRow cX5_noRow 2 (some .int) [.ref (a0 0), .int p1] (wdM G a0 S0) (some (.int out)) (wdM G a0 S0) := by
  refine Con_of (by decide +kernel) (Nat.le_of_ble_eq_true rfl) (fun E hl hG hn C => ?_)
  subst hl
  subst hG
  have C : Ctx E cX5_noRow RX5 0 (some .int) := C
  show V E _ _ 0 [(0, .ref (a0 0)), (1, .int p1)] []
  unfold fX5_noRow at h
  refine V_pb C hn [(.aload_n 0, 1)] (pc' := 1) (ls' := [(0, .ref (a0 0)), (1, .int p1)]) (st' := [.ref (a0 0)]) (decB_ok (by decide +kernel)) rfl rfl ?_
  refine V_get C (v := .ref (a0 6)) (by decide +kernel) 0 14 fk_RX5_25 rfl rfl ?_
  refine V_pb C hn [(.iload_n 1, 1)] (pc' := 5) (ls' := [(0, .ref (a0 0)), (1, .int p1)]) (st' := [.int p1, .ref (a0 6)]) (decB_ok (by decide +kernel)) rfl rfl ?_
  refine V_iald C (f := (m_holding S0)) (by decide +kernel) 6 rfl h (fun h => ?_)
  refine V_pb C hn [(.bipush 10, 2)] (pc' := 8) (ls' := [(0, .ref (a0 0)), (1, .int p1)]) (st' := [.int (10 : Int32), .int ((m_holding S0) (ix p1))]) (decB_ok (by decide +kernel)) rfl rfl ?_
  refine V_ic_lt C (off := 8) (tgt := 16) (by decide +kernel) (by decide) h (fun _ h => ?_) (fun _ h => ?_)
  · refine V_pb C hn [(.aload_n 0, 1)] (pc' := 17) (ls' := [(0, .ref (a0 0)), (1, .int p1)]) (st' := [.ref (a0 0)]) (decB_ok (by decide +kernel)) rfl rfl ?_
    refine V_get C (v := .ref (a0 6)) (by decide +kernel) 0 14 fk_RX5_25 rfl rfl ?_
    refine V_pb C hn [(.iload_n 1, 1)] (pc' := 21) (ls' := [(0, .ref (a0 0)), (1, .int p1)]) (st' := [.int p1, .ref (a0 6)]) (decB_ok (by decide +kernel)) rfl rfl ?_
    refine V_iald C (f := (m_holding S0)) (by decide +kernel) 6 rfl h (fun h => ?_)
    refine V_if_ge C (off := 8) (tgt := 30) (by decide +kernel) (by decide) h (fun _ h => ?_) (fun _ h => ?_)
    · refine V_pb C hn [(.iconst 0, 1)] (pc' := 31) (ls' := [(0, .ref (a0 0)), (1, .int p1)]) (st' := [.int (0 : Int32)]) (decB_ok (by decide +kernel)) rfl rfl ?_
      have h := Option.some.inj h
      subst h
      exact V_iret C (by decide +kernel) rfl
    · refine V_pb C hn [(.bipush (-4), 2)] (pc' := 27) (ls' := [(0, .ref (a0 0)), (1, .int p1)]) (st' := [.int (cI (-4))]) (decB_ok (by decide +kernel)) rfl rfl ?_
      refine V_goto C (off := 4) (tgt := 31) (by decide +kernel) (by decide) ?_
      have h := Option.some.inj h
      subst h
      exact V_iret C (by decide +kernel) rfl
  · refine V_pb C hn [(.bipush (-3), 2)] (pc' := 13) (ls' := [(0, .ref (a0 0)), (1, .int p1)]) (st' := [.int (cI (-3))]) (decB_ok (by decide +kernel)) rfl rfl ?_
    refine V_goto C (off := 18) (tgt := 31) (by decide +kernel) (by decide) ?_
    have h := Option.some.inj h
    subst h
    exact V_iret C (by decide +kernel) rfl
set_option maxRecDepth 100000 in
set_option maxHeartbeats 400000 in
theorem cfX5_kept {l : Launch} {G : GG} {p0 : Int32} {p1 : Int64} {out : Int64} (h : fX5_kept p0 p1 = some out) : Con l G 0 yX5_kept cX5_kept 3 (some .long) [.int p0, .long p1] (([] : va_W)) (some (.long out)) (([] : va_W)) := by
  refine Con_of (by decide +kernel) (Nat.le_of_ble_eq_true rfl) (fun E hl hG hn C => ?_)
  subst hl
  subst hG
  have C : Ctx E cX5_kept RX5 0 (some .long) := C
  show V E _ _ 0 [(0, .int p0), (1, .long p1)] []
  unfold fX5_kept at h
  refine V_pb C hn [(.iload_n 0, 1)] (pc' := 1) (ls' := [(0, .int p0), (1, .long p1)]) (st' := [.int p0]) (decB_ok (by decide +kernel)) rfl rfl ?_
  refine V_sw (0) ?_
  refine Sw_at C (dflt := 47) (lo := 0) (hi := 3) (offs := #[31, 36, 41, 45]) (len := 31) (off := 31) (v := (0 : Int32)) (tgt := 32) (by decide +kernel) (by decide) (by decide) (by decide) rfl (by decide) h (fun _ h => ?_) (fun _ h => ?_)
  · refine V_pb C hn [(.lload_n 1, 1), (.l2i, 1), (.i2b, 1), (.i2l, 1)] (pc' := 36) (ls' := [(0, .int p0), (1, .long p1)]) (st' := [.long p1.toInt32.toInt8.toInt32.toInt64]) (decB_ok (by decide +kernel)) rfl rfl ?_
    have h := Option.some.inj h
    subst h
    exact V_lret C (by decide +kernel)
  refine Sw_at C (dflt := 47) (lo := 0) (hi := 3) (offs := #[31, 36, 41, 45]) (len := 31) (off := 36) (v := (1 : Int32)) (tgt := 37) (by decide +kernel) (by decide) (by decide) (by decide) rfl (by decide) h (fun _ h => ?_) (fun _ h => ?_)
  · refine V_pb C hn [(.lload_n 1, 1), (.l2i, 1), (.i2s, 1), (.i2l, 1)] (pc' := 41) (ls' := [(0, .int p0), (1, .long p1)]) (st' := [.long p1.toInt32.toInt16.toInt32.toInt64]) (decB_ok (by decide +kernel)) rfl rfl ?_
    have h := Option.some.inj h
    subst h
    exact V_lret C (by decide +kernel)
  refine Sw_at C (dflt := 47) (lo := 0) (hi := 3) (offs := #[31, 36, 41, 45]) (len := 31) (off := 41) (v := (2 : Int32)) (tgt := 42) (by decide +kernel) (by decide) (by decide) (by decide) rfl (by decide) h (fun _ h => ?_) (fun _ h => ?_)
  · refine V_pb C hn [(.lload_n 1, 1), (.l2i, 1), (.i2l, 1)] (pc' := 45) (ls' := [(0, .int p0), (1, .long p1)]) (st' := [.long p1.toInt32.toInt64]) (decB_ok (by decide +kernel)) rfl rfl ?_
    have h := Option.some.inj h
    subst h
    exact V_lret C (by decide +kernel)
  refine Sw_at C (dflt := 47) (lo := 0) (hi := 3) (offs := #[31, 36, 41, 45]) (len := 31) (off := 45) (v := (3 : Int32)) (tgt := 46) (by decide +kernel) (by decide) (by decide) (by decide) rfl (by decide) h (fun _ h => ?_) (fun _ h => ?_)
  · refine V_pb C hn [(.lload_n 1, 1)] (pc' := 47) (ls' := [(0, .int p0), (1, .long p1)]) (st' := [.long p1]) (decB_ok (by decide +kernel)) rfl rfl ?_
    have h := Option.some.inj h
    subst h
    exact V_lret C (by decide +kernel)
  refine Sw_end C (dflt := 47) (lo := 0) (hi := 3) (offs := #[31, 36, 41, 45]) (len := 31) (tgt := 48) (by decide +kernel) (by decide) (by decide) ?_
  refine V_pb C hn [(.lload_n 1, 1), (.lconst 0, 1), (.lcmp, 1)] (pc' := 51) (ls' := [(0, .int p0), (1, .long p1)]) (st' := [.int (lg_cmp p1 (0 : Int64))]) (decB_ok (by decide +kernel)) rfl rfl ?_
  refine V_if_eq C (off := 7) (tgt := 58) (by decide +kernel) (by decide) h (fun _ h => ?_) (fun _ h => ?_)
  · refine V_pb C hn [(.lconst 0, 1)] (pc' := 59) (ls' := [(0, .int p0), (1, .long p1)]) (st' := [.long (0 : Int64)]) (decB_ok (by decide +kernel)) rfl rfl ?_
    have h := Option.some.inj h
    subst h
    exact V_lret C (by decide +kernel)
  · refine V_pb C hn [(.lconst 1, 1)] (pc' := 55) (ls' := [(0, .int p0), (1, .long p1)]) (st' := [.long (1 : Int64)]) (decB_ok (by decide +kernel)) rfl rfl ?_
    refine V_goto C (off := 4) (tgt := 59) (by decide +kernel) (by decide) ?_
    have h := Option.some.inj h
    subst h
    exact V_lret C (by decide +kernel)
set_option maxRecDepth 100000 in
set_option maxHeartbeats 400000 in
theorem cfX5_set {l : Launch} {G : GG} (a0 : Nat → Nat) {p1 : Int32} {p2 : Int32} {p3 : Int64} {S0 : MT} {out : Int32 × MT} (h : fX5_set p1 p2 p3 S0 = some out) : Con l G 2 yX5_set cX5_set 5 (some .int) [.ref (a0 0), .int p1, .int p2, .long p3] (wdM G a0 S0) (some (.int out.1)) (wdM G a0 out.2) := by
  refine Con_of (by decide +kernel) (Nat.le_of_ble_eq_true rfl) (fun E hl hG hn C => ?_)
  subst hl
  subst hG
  have C : Ctx E cX5_set RX5 2 (some .int) := C
  show V E _ _ 0 [(0, .ref (a0 0)), (1, .int p1), (2, .int p2), (3, .long p3)] []
  unfold fX5_set at h
  refine V_pb C hn [(.iload_n 1, 1)] (pc' := 1) (ls' := [(0, .ref (a0 0)), (1, .int p1), (2, .int p2), (3, .long p3)]) (st' := [.int p1]) (decB_ok (by decide +kernel)) rfl rfl ?_
  obtain ⟨q1, h2, h⟩ := bnd h
  refine V_callSp C (As := [.int p1]) (rest := []) (by decide +kernel) ok_yX5_isShelf mk_RX5_73 (cfX5_isShelf (l := E.l) (G := E.G) h2) [] rfl rfl rfl rfl (Nat.le_of_ble_eq_true rfl) (Nat.le_of_ble_eq_true rfl) (Nat.le_of_ble_eq_true rfl) ?_
  show V E _ (wdM E.G a0 S0) 4 [(0, .ref (a0 0)), (1, .int p1), (2, .int p2), (3, .long p3)] [.int q1]
  refine V_if_ne C (off := 10) (tgt := 14) (by decide +kernel) (by decide) h (fun _ h => ?_) (fun _ h => ?_)
  · refine V_pb C hn [(.aload_n 0, 1), (.bipush (-2), 2)] (pc' := 10) (ls' := [(0, .ref (a0 0)), (1, .int p1), (2, .int p2), (3, .long p3)]) (st' := [.int (cI (-2)), .ref (a0 0)]) (decB_ok (by decide +kernel)) rfl rfl ?_
    obtain ⟨q3, h4, h⟩ := bnd h
    refine V_callV0 C (As := [.int (cI (-2))]) (rest := []) (by decide +kernel) ok_yX5_no mk_RX5_77 (cfX5_no (l := E.l) (G := E.G) a0 h4) (q0 := 0) rfl rfl rfl rfl rfl rfl (Nat.le_of_ble_eq_true rfl) (Nat.le_of_ble_eq_true rfl) (Nat.le_of_ble_eq_true rfl) ?_
    show V E _ (wdM E.G a0 q3.2) 13 [(0, .ref (a0 0)), (1, .int p1), (2, .int p2), (3, .long p3)] [.int q3.1]
    have h := Option.some.inj h
    subst h
    exact V_iret C (by decide +kernel) rfl
  · refine V_pb C hn [(.aload_n 0, 1), (.iload_n 1, 1)] (pc' := 16) (ls' := [(0, .ref (a0 0)), (1, .int p1), (2, .int p2), (3, .long p3)]) (st' := [.int p1, .ref (a0 0)]) (decB_ok (by decide +kernel)) rfl rfl ?_
    obtain ⟨q5, h6, h⟩ := bnd h
    refine V_callV0 C (As := [.int p1]) (rest := []) (by decide +kernel) ok_yX5_isRow mk_RX5_81 (cfX5_isRow (l := E.l) (G := E.G) a0 h6) (q0 := 0) rfl rfl rfl rfl rfl rfl (Nat.le_of_ble_eq_true rfl) (Nat.le_of_ble_eq_true rfl) (Nat.le_of_ble_eq_true rfl) ?_
    show V E _ (wdM E.G a0 S0) 19 [(0, .ref (a0 0)), (1, .int p1), (2, .int p2), (3, .long p3)] [.int q5]
    refine V_if_ne C (off := 13) (tgt := 32) (by decide +kernel) (by decide) h (fun _ h => ?_) (fun _ h => ?_)
    · refine V_pb C hn [(.aload_n 0, 1), (.aload_n 0, 1), (.iload_n 1, 1)] (pc' := 25) (ls' := [(0, .ref (a0 0)), (1, .int p1), (2, .int p2), (3, .long p3)]) (st' := [.int p1, .ref (a0 0), .ref (a0 0)]) (decB_ok (by decide +kernel)) rfl rfl ?_
      obtain ⟨q7, h8, h⟩ := bnd h
      refine V_callV0 C (As := [.int p1]) (rest := [.ref (a0 0)]) (by decide +kernel) ok_yX5_noRow mk_RX5_84 (cfX5_noRow (l := E.l) (G := E.G) a0 h8) (q0 := 0) rfl rfl rfl rfl rfl rfl (Nat.le_of_ble_eq_true rfl) (Nat.le_of_ble_eq_true rfl) (Nat.le_of_ble_eq_true rfl) ?_
      show V E _ (wdM E.G a0 S0) 28 [(0, .ref (a0 0)), (1, .int p1), (2, .int p2), (3, .long p3)] [.int q7, .ref (a0 0)]
      obtain ⟨q9, h10, h⟩ := bnd h
      refine V_callV0 C (As := [.int q7]) (rest := []) (by decide +kernel) ok_yX5_no mk_RX5_77 (cfX5_no (l := E.l) (G := E.G) a0 h10) (q0 := 0) rfl rfl rfl rfl rfl rfl (Nat.le_of_ble_eq_true rfl) (Nat.le_of_ble_eq_true rfl) (Nat.le_of_ble_eq_true rfl) ?_
      show V E _ (wdM E.G a0 q9.2) 31 [(0, .ref (a0 0)), (1, .int p1), (2, .int p2), (3, .long p3)] [.int q9.1]
      have h := Option.some.inj h
      subst h
      exact V_iret C (by decide +kernel) rfl
    · refine V_pb C hn [(.iload_n 2, 1), (.iconst 0, 1), (.aload_n 0, 1)] (pc' := 35) (ls' := [(0, .ref (a0 0)), (1, .int p1), (2, .int p2), (3, .long p3)]) (st' := [.ref (a0 0), .int (0 : Int32), .int p2]) (decB_ok (by decide +kernel)) rfl rfl ?_
      refine V_get C (v := .ref (a0 7)) (by decide +kernel) 0 15 fk_RX5_28 rfl rfl ?_
      refine V_pb C hn [(.iload_n 1, 1)] (pc' := 39) (ls' := [(0, .ref (a0 0)), (1, .int p1), (2, .int p2), (3, .long p3)]) (st' := [.int p1, .ref (a0 7), .int (0 : Int32), .int p2]) (decB_ok (by decide +kernel)) rfl rfl ?_
      refine V_iald C (f := (m_rowLength S0)) (by decide +kernel) 7 rfl h (fun h => ?_)
      refine V_pb C hn [(.iconst 1, 1), (.isub, 1)] (pc' := 42) (ls' := [(0, .ref (a0 0)), (1, .int p1), (2, .int p2), (3, .long p3)]) (st' := [.int (((m_rowLength S0) (ix p1)) - (1 : Int32)), .int (0 : Int32), .int p2]) (decB_ok (by decide +kernel)) rfl rfl ?_
      obtain ⟨q11, h12, h⟩ := bnd h
      refine V_callSp C (As := [.int p2, .int (0 : Int32), .int (((m_rowLength S0) (ix p1)) - (1 : Int32))]) (rest := []) (by decide +kernel) ok_yX5_within mk_RX5_63 (cfX5_within (l := E.l) (G := E.G) h12) [] rfl rfl rfl rfl (Nat.le_of_ble_eq_true rfl) (Nat.le_of_ble_eq_true rfl) (Nat.le_of_ble_eq_true rfl) ?_
      show V E _ (wdM E.G a0 S0) 45 [(0, .ref (a0 0)), (1, .int p1), (2, .int p2), (3, .long p3)] [.int q11]
      refine V_if_ne C (off := 10) (tgt := 55) (by decide +kernel) (by decide) h (fun _ h => ?_) (fun _ h => ?_)
      · refine V_pb C hn [(.aload_n 0, 1), (.bipush (-2), 2)] (pc' := 51) (ls' := [(0, .ref (a0 0)), (1, .int p1), (2, .int p2), (3, .long p3)]) (st' := [.int (cI (-2)), .ref (a0 0)]) (decB_ok (by decide +kernel)) rfl rfl ?_
        obtain ⟨q13, h14, h⟩ := bnd h
        refine V_callV0 C (As := [.int (cI (-2))]) (rest := []) (by decide +kernel) ok_yX5_no mk_RX5_77 (cfX5_no (l := E.l) (G := E.G) a0 h14) (q0 := 0) rfl rfl rfl rfl rfl rfl (Nat.le_of_ble_eq_true rfl) (Nat.le_of_ble_eq_true rfl) (Nat.le_of_ble_eq_true rfl) ?_
        show V E _ (wdM E.G a0 q13.2) 54 [(0, .ref (a0 0)), (1, .int p1), (2, .int p2), (3, .long p3)] [.int q13.1]
        have h := Option.some.inj h
        subst h
        exact V_iret C (by decide +kernel) rfl
      · refine V_pb C hn [(.aload_n 0, 1)] (pc' := 56) (ls' := [(0, .ref (a0 0)), (1, .int p1), (2, .int p2), (3, .long p3)]) (st' := [.ref (a0 0)]) (decB_ok (by decide +kernel)) rfl rfl ?_
        refine V_get C (v := .ref (a0 8)) (by decide +kernel) 0 16 fk_RX5_31 rfl rfl ?_
        refine V_pb C hn [(.bipush 40, 2), (.iload_n 1, 1), (.imul, 1), (.iload_n 2, 1), (.iadd, 1), (.aload_n 0, 1)] (pc' := 66) (ls' := [(0, .ref (a0 0)), (1, .int p1), (2, .int p2), (3, .long p3)]) (st' := [.ref (a0 0), .int (((40 : Int32) * p1) + p2), .ref (a0 8)]) (decB_ok (by decide +kernel)) rfl rfl ?_
        refine V_get C (v := .ref (a0 6)) (by decide +kernel) 0 14 fk_RX5_25 rfl rfl ?_
        refine V_pb C hn [(.iload_n 1, 1)] (pc' := 70) (ls' := [(0, .ref (a0 0)), (1, .int p1), (2, .int p2), (3, .long p3)]) (st' := [.int p1, .ref (a0 6), .int (((40 : Int32) * p1) + p2), .ref (a0 8)]) (decB_ok (by decide +kernel)) rfl rfl ?_
        refine V_iald C (f := (m_holding S0)) (by decide +kernel) 6 rfl h (fun h => ?_)
        refine V_pb C hn [(.lload_n 3, 1)] (pc' := 72) (ls' := [(0, .ref (a0 0)), (1, .int p1), (2, .int p2), (3, .long p3)]) (st' := [.long p3, .int ((m_holding S0) (ix p1)), .int (((40 : Int32) * p1) + p2), .ref (a0 8)]) (decB_ok (by decide +kernel)) rfl rfl ?_
        obtain ⟨q15, h16, h⟩ := bnd h
        refine V_callSp C (As := [.int ((m_holding S0) (ix p1)), .long p3]) (rest := [.int (((40 : Int32) * p1) + p2), .ref (a0 8)]) (by decide +kernel) ok_yX5_kept mk_RX5_87 (cfX5_kept (l := E.l) (G := E.G) h16) [] rfl rfl rfl rfl (Nat.le_of_ble_eq_true rfl) (Nat.le_of_ble_eq_true rfl) (Nat.le_of_ble_eq_true rfl) ?_
        show V E _ (wdM E.G a0 S0) 75 [(0, .ref (a0 0)), (1, .int p1), (2, .int p2), (3, .long p3)] [.long q15, .int (((40 : Int32) * p1) + p2), .ref (a0 8)]
        obtain ⟨x17, e18, h⟩ := bnd h
        refine V_top2 e18 ?_
        refine V_last C (f := (m_rowOf S0)) (ws' := wdM E.G a0 (ms_rowOf S0 (vp_updL (m_rowOf S0) (ix x17) q15))) (by decide +kernel) 8 rfl h rfl (fun h => ?_)
        refine V_pb C hn [(.iconst 1, 1)] (pc' := 77) (ls' := [(0, .ref (a0 0)), (1, .int p1), (2, .int p2), (3, .long p3)]) (st' := [.int (1 : Int32)]) (decB_ok (by decide +kernel)) rfl rfl ?_
        have h := Option.some.inj h
        subst h
        exact V_iret C (by decide +kernel) rfl
set_option maxRecDepth 100000 in
set_option maxHeartbeats 400000 in
theorem cfX5_copy_j14 {E : VE} (C : Ctx E cX5_copy RX5 2 (some .int)) (hn : E.nL = 7) {a0 : Nat → Nat} {p1 : Int32} {p2 : Int32} {p3 : Int32} {p4 : Int32} {p5 : Int32} {S0 : MT} {out : Int32 × MT} (h : fX5_copy_j14 p1 p2 p3 p4 p5 S0 = some out) : V E (QR E (some (.int out.1)) (wdM E.G a0 out.2)) (wdM E.G a0 S0) 14 [(0, .ref (a0 0))] [] := by
  unfold fX5_copy_j14 at h
  refine V_pb C hn [(.aload_n 0, 1), (.bipush (-2), 2)] (pc' := 17) (ls' := [(0, .ref (a0 0))]) (st' := [.int (cI (-2)), .ref (a0 0)]) (decB_ok (by decide +kernel)) rfl rfl ?_
  obtain ⟨q3, h4, h⟩ := bnd h
  refine V_callV0 C (As := [.int (cI (-2))]) (rest := []) (by decide +kernel) ok_yX5_no mk_RX5_77 (cfX5_no (l := E.l) (G := E.G) a0 h4) (q0 := 0) rfl rfl rfl rfl rfl rfl (Nat.le_of_ble_eq_true rfl) (Nat.le_of_ble_eq_true rfl) (Nat.le_of_ble_eq_true rfl) ?_
  show V E _ (wdM E.G a0 q3.2) 20 [(0, .ref (a0 0))] [.int q3.1]
  have h := Option.some.inj h
  subst h
  exact V_iret C (by decide +kernel) rfl
set_option maxRecDepth 100000 in
set_option maxHeartbeats 400000 in
theorem cfX5_copy_j74 {E : VE} (C : Ctx E cX5_copy RX5 2 (some .int)) (hn : E.nL = 7) {a0 : Nat → Nat} {p1 : Int32} {p2 : Int32} {p3 : Int32} {p4 : Int32} {p5 : Int32} {S0 : MT} {out : Int32 × MT} (h : fX5_copy_j74 p1 p2 p3 p4 p5 S0 = some out) : V E (QR E (some (.int out.1)) (wdM E.G a0 out.2)) (wdM E.G a0 S0) 74 [(0, .ref (a0 0))] [] := by
  unfold fX5_copy_j74 at h
  refine V_pb C hn [(.aload_n 0, 1), (.bipush (-3), 2)] (pc' := 77) (ls' := [(0, .ref (a0 0))]) (st' := [.int (cI (-3)), .ref (a0 0)]) (decB_ok (by decide +kernel)) rfl rfl ?_
  obtain ⟨q7, h8, h⟩ := bnd h
  refine V_callV0 C (As := [.int (cI (-3))]) (rest := []) (by decide +kernel) ok_yX5_no mk_RX5_77 (cfX5_no (l := E.l) (G := E.G) a0 h8) (q0 := 0) rfl rfl rfl rfl rfl rfl (Nat.le_of_ble_eq_true rfl) (Nat.le_of_ble_eq_true rfl) (Nat.le_of_ble_eq_true rfl) ?_
  show V E _ (wdM E.G a0 q7.2) 80 [(0, .ref (a0 0))] [.int q7.1]
  have h := Option.some.inj h
  subst h
  exact V_iret C (by decide +kernel) rfl
set_option maxRecDepth 100000 in
set_option maxHeartbeats 400000 in
theorem cfX5_copy_j99 {E : VE} (C : Ctx E cX5_copy RX5 2 (some .int)) (hn : E.nL = 7) {a0 : Nat → Nat} {p1 : Int32} {p2 : Int32} {p3 : Int32} {p4 : Int32} {p5 : Int32} {S0 : MT} {out : Int32 × MT} (h : fX5_copy_j99 p1 p2 p3 p4 p5 S0 = some out) : V E (QR E (some (.int out.1)) (wdM E.G a0 out.2)) (wdM E.G a0 S0) 99 [(0, .ref (a0 0))] [] := by
  unfold fX5_copy_j99 at h
  refine V_pb C hn [(.aload_n 0, 1), (.bipush (-4), 2)] (pc' := 102) (ls' := [(0, .ref (a0 0))]) (st' := [.int (cI (-4)), .ref (a0 0)]) (decB_ok (by decide +kernel)) rfl rfl ?_
  obtain ⟨q11, h12, h⟩ := bnd h
  refine V_callV0 C (As := [.int (cI (-4))]) (rest := []) (by decide +kernel) ok_yX5_no mk_RX5_77 (cfX5_no (l := E.l) (G := E.G) a0 h12) (q0 := 0) rfl rfl rfl rfl rfl rfl (Nat.le_of_ble_eq_true rfl) (Nat.le_of_ble_eq_true rfl) (Nat.le_of_ble_eq_true rfl) ?_
  show V E _ (wdM E.G a0 q11.2) 105 [(0, .ref (a0 0))] [.int q11.1]
  have h := Option.some.inj h
  subst h
  exact V_iret C (by decide +kernel) rfl
set_option maxRecDepth 100000 in
set_option maxHeartbeats 400000 in
theorem cfX5_copy_j155 {E : VE} (C : Ctx E cX5_copy RX5 2 (some .int)) (hn : E.nL = 7) {a0 : Nat → Nat} {p1 : Int32} {p2 : Int32} {p3 : Int32} {p4 : Int32} {p5 : Int32} {S0 : MT} {out : Int32 × MT} (h : fX5_copy_j155 p1 p2 p3 p4 p5 S0 = some out) : V E (QR E (some (.int out.1)) (wdM E.G a0 out.2)) (wdM E.G a0 S0) 155 [(0, .ref (a0 0))] [] := by
  unfold fX5_copy_j155 at h
  refine V_pb C hn [(.aload_n 0, 1), (.bipush (-2), 2)] (pc' := 158) (ls' := [(0, .ref (a0 0))]) (st' := [.int (cI (-2)), .ref (a0 0)]) (decB_ok (by decide +kernel)) rfl rfl ?_
  obtain ⟨q13, h14, h⟩ := bnd h
  refine V_callV0 C (As := [.int (cI (-2))]) (rest := []) (by decide +kernel) ok_yX5_no mk_RX5_77 (cfX5_no (l := E.l) (G := E.G) a0 h14) (q0 := 0) rfl rfl rfl rfl rfl rfl (Nat.le_of_ble_eq_true rfl) (Nat.le_of_ble_eq_true rfl) (Nat.le_of_ble_eq_true rfl) ?_
  show V E _ (wdM E.G a0 q13.2) 161 [(0, .ref (a0 0))] [.int q13.1]
  have h := Option.some.inj h
  subst h
  exact V_iret C (by decide +kernel) rfl
set_option maxRecDepth 100000 in
set_option maxHeartbeats 400000 in
theorem cfX5_copy_L225 {E : VE} (C : Ctx E cX5_copy RX5 2 (some .int)) (hn : E.nL = 7) {a0 : Nat → Nat} {p1 : Int32} {p2 : Int32} {p3 : Int32} {p4 : Int32} {p5 : Int32} {out : Int32 × MT} : ∀ (n : Nat) (v6 : Int32) (S0 : MT), fX5_copy_L225 p1 p2 p3 p4 p5 n v6 S0 = some out → V E (QR E (some (.int out.1)) (wdM E.G a0 out.2)) (wdM E.G a0 S0) 225 [(0, .ref (a0 0)), (1, .int p1), (2, .int p2), (3, .int p3), (4, .int p4), (5, .int p5), (6, .int v6)] [] := by
  intro n
  induction n with
  | zero =>
    intro v6 S0 h
    cases h
  | succ n ih =>
    intro v6 S0 h
    unfold fX5_copy_L225 at h
    refine V_pb C hn [(.iload 6, 2), (.iload 5, 2)] (pc' := 229) (ls' := [(0, .ref (a0 0)), (1, .int p1), (2, .int p2), (3, .int p3), (4, .int p4), (5, .int p5), (6, .int v6)]) (st' := [.int p5, .int v6]) (decB_ok (by decide +kernel)) rfl rfl ?_
    refine V_ic_ge C (off := 38) (tgt := 267) (by decide +kernel) (by decide) h (fun _ h => ?_) (fun _ h => ?_)
    · refine V_pb C hn [(.iload 5, 2)] (pc' := 269) (ls' := [(0, .ref (a0 0)), (1, .int p1), (2, .int p2), (3, .int p3), (4, .int p4), (5, .int p5), (6, .int v6)]) (st' := [.int p5]) (decB_ok (by decide +kernel)) rfl rfl ?_
      have h := Option.some.inj h
      subst h
      exact V_iret C (by decide +kernel) rfl
    · refine V_pb C hn [(.aload_n 0, 1)] (pc' := 233) (ls' := [(0, .ref (a0 0)), (1, .int p1), (2, .int p2), (3, .int p3), (4, .int p4), (5, .int p5), (6, .int v6)]) (st' := [.ref (a0 0)]) (decB_ok (by decide +kernel)) rfl rfl ?_
      refine V_get C (v := .ref (a0 8)) (by decide +kernel) 0 16 fk_RX5_31 rfl rfl ?_
      refine V_pb C hn [(.bipush 40, 2), (.iload_n 2, 1), (.imul, 1), (.iload 4, 2), (.iadd, 1), (.iload 6, 2), (.iadd, 1), (.aload_n 0, 1)] (pc' := 247) (ls' := [(0, .ref (a0 0)), (1, .int p1), (2, .int p2), (3, .int p3), (4, .int p4), (5, .int p5), (6, .int v6)]) (st' := [.ref (a0 0), .int ((((40 : Int32) * p2) + p4) + v6), .ref (a0 8)]) (decB_ok (by decide +kernel)) rfl rfl ?_
      refine V_get C (v := .ref (a0 8)) (by decide +kernel) 0 16 fk_RX5_31 rfl rfl ?_
      refine V_pb C hn [(.bipush 40, 2), (.iload_n 1, 1), (.imul, 1), (.iload_n 3, 1), (.iadd, 1), (.iload 6, 2), (.iadd, 1)] (pc' := 259) (ls' := [(0, .ref (a0 0)), (1, .int p1), (2, .int p2), (3, .int p3), (4, .int p4), (5, .int p5), (6, .int v6)]) (st' := [.int ((((40 : Int32) * p1) + p3) + v6), .ref (a0 8), .int ((((40 : Int32) * p2) + p4) + v6), .ref (a0 8)]) (decB_ok (by decide +kernel)) rfl rfl ?_
      refine V_lald C (f := (m_rowOf S0)) (by decide +kernel) 8 rfl h (fun h => ?_)
      obtain ⟨x15, e16, h⟩ := bnd h
      refine V_topl e16 ?_
      obtain ⟨x17, e18, h⟩ := bnd h
      refine V_top2 e18 ?_
      obtain ⟨hb9, h⟩ := gd_some h
      obtain ⟨w19, e20, h⟩ := bnd h
      refine V_last C (f := (m_rowOf S0)) (ws' := wdM E.G a0 w19) (by decide +kernel) 8 rfl (o := some ()) (out := ()) (by rw [hb9]; rfl) (by cases e20; rfl) (fun _ => ?_)
      refine V_pb C hn [(.iinc 6 1, 3)] (pc' := 264) (ls' := [(0, .ref (a0 0)), (1, .int p1), (2, .int p2), (3, .int p3), (4, .int p4), (5, .int p5), (6, .int (v6 + (1 : Int32)))]) (st' := []) (decB_ok (by decide +kernel)) rfl rfl ?_
      refine V_goto C (off := -39) (tgt := 225) (by decide +kernel) (by decide) ?_
      refine V_sub (ls' := [(0, .ref (a0 0)), (1, .int p1), (2, .int p2), (3, .int p3), (4, .int p4), (5, .int p5), (6, .int (v6 + (1 : Int32)))]) rfl ?_
      exact ih _ _ h
set_option maxRecDepth 100000 in
set_option maxHeartbeats 400000 in
theorem cfX5_copy_j222 {E : VE} (C : Ctx E cX5_copy RX5 2 (some .int)) (hn : E.nL = 7) {a0 : Nat → Nat} {p1 : Int32} {p2 : Int32} {p3 : Int32} {p4 : Int32} {p5 : Int32} {S0 : MT} {out : Int32 × MT} (h : fX5_copy_j222 p1 p2 p3 p4 p5 S0 = some out) : V E (QR E (some (.int out.1)) (wdM E.G a0 out.2)) (wdM E.G a0 S0) 222 [(0, .ref (a0 0)), (1, .int p1), (2, .int p2), (3, .int p3), (4, .int p4), (5, .int p5)] [] := by
  unfold fX5_copy_j222 at h
  refine V_pb C hn [(.iconst 0, 1), (.istore 6, 2)] (pc' := 225) (ls' := [(0, .ref (a0 0)), (1, .int p1), (2, .int p2), (3, .int p3), (4, .int p4), (5, .int p5), (6, .int (0 : Int32))]) (st' := []) (decB_ok (by decide +kernel)) rfl rfl ?_
  refine V_sub (ls' := [(0, .ref (a0 0)), (1, .int p1), (2, .int p2), (3, .int p3), (4, .int p4), (5, .int p5), (6, .int (0 : Int32))]) rfl ?_
  exact cfX5_copy_L225 C hn FU _ _ h
set_option maxRecDepth 100000 in
set_option maxHeartbeats 400000 in
theorem cfX5_copy_L179 {E : VE} (C : Ctx E cX5_copy RX5 2 (some .int)) (hn : E.nL = 7) {a0 : Nat → Nat} {p1 : Int32} {p2 : Int32} {p3 : Int32} {p4 : Int32} {p5 : Int32} {out : Int32 × MT} : ∀ (n : Nat) (v6 : Int32) (S0 : MT), fX5_copy_L179 p1 p2 p3 p4 p5 n v6 S0 = some out → V E (QR E (some (.int out.1)) (wdM E.G a0 out.2)) (wdM E.G a0 S0) 179 [(0, .ref (a0 0)), (1, .int p1), (2, .int p2), (3, .int p3), (4, .int p4), (5, .int p5), (6, .int v6)] [] := by
  intro n
  induction n with
  | zero =>
    intro v6 S0 h
    cases h
  | succ n ih =>
    intro v6 S0 h
    unfold fX5_copy_L179 at h
    refine V_pb C hn [(.iload 6, 2)] (pc' := 181) (ls' := [(0, .ref (a0 0)), (1, .int p1), (2, .int p2), (3, .int p3), (4, .int p4), (5, .int p5), (6, .int v6)]) (st' := [.int v6]) (decB_ok (by decide +kernel)) rfl rfl ?_
    refine V_if_lt C (off := 38) (tgt := 219) (by decide +kernel) (by decide) h (fun _ h => ?_) (fun _ h => ?_)
    · refine V_goto C (off := 48) (tgt := 267) (by decide +kernel) (by decide) ?_
      refine V_pb C hn [(.iload 5, 2)] (pc' := 269) (ls' := [(0, .ref (a0 0)), (1, .int p1), (2, .int p2), (3, .int p3), (4, .int p4), (5, .int p5), (6, .int v6)]) (st' := [.int p5]) (decB_ok (by decide +kernel)) rfl rfl ?_
      have h := Option.some.inj h
      subst h
      exact V_iret C (by decide +kernel) rfl
    · refine V_pb C hn [(.aload_n 0, 1)] (pc' := 185) (ls' := [(0, .ref (a0 0)), (1, .int p1), (2, .int p2), (3, .int p3), (4, .int p4), (5, .int p5), (6, .int v6)]) (st' := [.ref (a0 0)]) (decB_ok (by decide +kernel)) rfl rfl ?_
      refine V_get C (v := .ref (a0 8)) (by decide +kernel) 0 16 fk_RX5_31 rfl rfl ?_
      refine V_pb C hn [(.bipush 40, 2), (.iload_n 2, 1), (.imul, 1), (.iload 4, 2), (.iadd, 1), (.iload 6, 2), (.iadd, 1), (.aload_n 0, 1)] (pc' := 199) (ls' := [(0, .ref (a0 0)), (1, .int p1), (2, .int p2), (3, .int p3), (4, .int p4), (5, .int p5), (6, .int v6)]) (st' := [.ref (a0 0), .int ((((40 : Int32) * p2) + p4) + v6), .ref (a0 8)]) (decB_ok (by decide +kernel)) rfl rfl ?_
      refine V_get C (v := .ref (a0 8)) (by decide +kernel) 0 16 fk_RX5_31 rfl rfl ?_
      refine V_pb C hn [(.bipush 40, 2), (.iload_n 1, 1), (.imul, 1), (.iload_n 3, 1), (.iadd, 1), (.iload 6, 2), (.iadd, 1)] (pc' := 211) (ls' := [(0, .ref (a0 0)), (1, .int p1), (2, .int p2), (3, .int p3), (4, .int p4), (5, .int p5), (6, .int v6)]) (st' := [.int ((((40 : Int32) * p1) + p3) + v6), .ref (a0 8), .int ((((40 : Int32) * p2) + p4) + v6), .ref (a0 8)]) (decB_ok (by decide +kernel)) rfl rfl ?_
      refine V_lald C (f := (m_rowOf S0)) (by decide +kernel) 8 rfl h (fun h => ?_)
      obtain ⟨x21, e22, h⟩ := bnd h
      refine V_topl e22 ?_
      obtain ⟨x23, e24, h⟩ := bnd h
      refine V_top2 e24 ?_
      obtain ⟨hb9, h⟩ := gd_some h
      obtain ⟨w25, e26, h⟩ := bnd h
      refine V_last C (f := (m_rowOf S0)) (ws' := wdM E.G a0 w25) (by decide +kernel) 8 rfl (o := some ()) (out := ()) (by rw [hb9]; rfl) (by cases e26; rfl) (fun _ => ?_)
      refine V_pb C hn [(.iinc 6 (-1), 3)] (pc' := 216) (ls' := [(0, .ref (a0 0)), (1, .int p1), (2, .int p2), (3, .int p3), (4, .int p4), (5, .int p5), (6, .int (v6 + (cI (-1))))]) (st' := []) (decB_ok (by decide +kernel)) rfl rfl ?_
      refine V_goto C (off := -37) (tgt := 179) (by decide +kernel) (by decide) ?_
      refine V_sub (ls' := [(0, .ref (a0 0)), (1, .int p1), (2, .int p2), (3, .int p3), (4, .int p4), (5, .int p5), (6, .int (v6 + (cI (-1))))]) rfl ?_
      exact ih _ _ h
set_option maxRecDepth 100000 in
set_option maxHeartbeats 400000 in
theorem cfX5_copy_j81 {E : VE} (C : Ctx E cX5_copy RX5 2 (some .int)) (hn : E.nL = 7) {a0 : Nat → Nat} {p1 : Int32} {p2 : Int32} {p3 : Int32} {p4 : Int32} {p5 : Int32} {S0 : MT} {out : Int32 × MT} (h : fX5_copy_j81 p1 p2 p3 p4 p5 S0 = some out) : V E (QR E (some (.int out.1)) (wdM E.G a0 out.2)) (wdM E.G a0 S0) 81 [(0, .ref (a0 0)), (1, .int p1), (2, .int p2), (3, .int p3), (4, .int p4), (5, .int p5)] [] := by
  unfold fX5_copy_j81 at h
  refine V_pb C hn [(.aload_n 0, 1)] (pc' := 82) (ls' := [(0, .ref (a0 0)), (1, .int p1), (2, .int p2), (3, .int p3), (4, .int p4), (5, .int p5)]) (st' := [.ref (a0 0)]) (decB_ok (by decide +kernel)) rfl rfl ?_
  refine V_get C (v := .ref (a0 6)) (by decide +kernel) 0 14 fk_RX5_25 rfl rfl ?_
  refine V_pb C hn [(.iload_n 1, 1)] (pc' := 86) (ls' := [(0, .ref (a0 0)), (1, .int p1), (2, .int p2), (3, .int p3), (4, .int p4), (5, .int p5)]) (st' := [.int p1, .ref (a0 6)]) (decB_ok (by decide +kernel)) rfl rfl ?_
  refine V_iald C (f := (m_holding S0)) (by decide +kernel) 6 rfl h (fun h => ?_)
  refine V_if_lt C (off := 12) (tgt := 99) (by decide +kernel) (by decide) h (fun _ h => ?_) (fun _ h => ?_)
  · refine V_sub (ls' := [(0, .ref (a0 0))]) rfl ?_
    exact cfX5_copy_j99 C hn h
  · refine V_pb C hn [(.aload_n 0, 1)] (pc' := 91) (ls' := [(0, .ref (a0 0)), (1, .int p1), (2, .int p2), (3, .int p3), (4, .int p4), (5, .int p5)]) (st' := [.ref (a0 0)]) (decB_ok (by decide +kernel)) rfl rfl ?_
    refine V_get C (v := .ref (a0 6)) (by decide +kernel) 0 14 fk_RX5_25 rfl rfl ?_
    refine V_pb C hn [(.iload_n 2, 1)] (pc' := 95) (ls' := [(0, .ref (a0 0)), (1, .int p1), (2, .int p2), (3, .int p3), (4, .int p4), (5, .int p5)]) (st' := [.int p2, .ref (a0 6)]) (decB_ok (by decide +kernel)) rfl rfl ?_
    refine V_iald C (f := (m_holding S0)) (by decide +kernel) 6 rfl h (fun h => ?_)
    refine V_if_ge C (off := 10) (tgt := 106) (by decide +kernel) (by decide) h (fun _ h => ?_) (fun _ h => ?_)
    · refine V_pb C hn [(.iload 5, 2)] (pc' := 108) (ls' := [(0, .ref (a0 0)), (1, .int p1), (2, .int p2), (3, .int p3), (4, .int p4), (5, .int p5)]) (st' := [.int p5]) (decB_ok (by decide +kernel)) rfl rfl ?_
      refine V_if_lt C (off := 47) (tgt := 155) (by decide +kernel) (by decide) h (fun _ h => ?_) (fun _ h => ?_)
      · refine V_sub (ls' := [(0, .ref (a0 0))]) rfl ?_
        exact cfX5_copy_j155 C hn h
      · refine V_pb C hn [(.iload_n 3, 1)] (pc' := 112) (ls' := [(0, .ref (a0 0)), (1, .int p1), (2, .int p2), (3, .int p3), (4, .int p4), (5, .int p5)]) (st' := [.int p3]) (decB_ok (by decide +kernel)) rfl rfl ?_
        refine V_if_lt C (off := 43) (tgt := 155) (by decide +kernel) (by decide) h (fun _ h => ?_) (fun _ h => ?_)
        · refine V_sub (ls' := [(0, .ref (a0 0))]) rfl ?_
          exact cfX5_copy_j155 C hn h
        · refine V_pb C hn [(.iload 4, 2)] (pc' := 117) (ls' := [(0, .ref (a0 0)), (1, .int p1), (2, .int p2), (3, .int p3), (4, .int p4), (5, .int p5)]) (st' := [.int p4]) (decB_ok (by decide +kernel)) rfl rfl ?_
          refine V_if_lt C (off := 38) (tgt := 155) (by decide +kernel) (by decide) h (fun _ h => ?_) (fun _ h => ?_)
          · refine V_sub (ls' := [(0, .ref (a0 0))]) rfl ?_
            exact cfX5_copy_j155 C hn h
          · refine V_pb C hn [(.iload_n 3, 1), (.i2l, 1), (.iload 5, 2), (.i2l, 1), (.ladd, 1), (.aload_n 0, 1)] (pc' := 127) (ls' := [(0, .ref (a0 0)), (1, .int p1), (2, .int p2), (3, .int p3), (4, .int p4), (5, .int p5)]) (st' := [.ref (a0 0), .long (p3.toInt64 + p5.toInt64)]) (decB_ok (by decide +kernel)) rfl rfl ?_
            refine V_get C (v := .ref (a0 7)) (by decide +kernel) 0 15 fk_RX5_28 rfl rfl ?_
            refine V_pb C hn [(.iload_n 1, 1)] (pc' := 131) (ls' := [(0, .ref (a0 0)), (1, .int p1), (2, .int p2), (3, .int p3), (4, .int p4), (5, .int p5)]) (st' := [.int p1, .ref (a0 7), .long (p3.toInt64 + p5.toInt64)]) (decB_ok (by decide +kernel)) rfl rfl ?_
            refine V_iald C (f := (m_rowLength S0)) (by decide +kernel) 7 rfl h (fun h => ?_)
            refine V_pb C hn [(.i2l, 1), (.lcmp, 1)] (pc' := 134) (ls' := [(0, .ref (a0 0)), (1, .int p1), (2, .int p2), (3, .int p3), (4, .int p4), (5, .int p5)]) (st' := [.int (lg_cmp (p3.toInt64 + p5.toInt64) (((m_rowLength S0) (ix p1)).toInt64))]) (decB_ok (by decide +kernel)) rfl rfl ?_
            refine V_if_gt C (off := 21) (tgt := 155) (by decide +kernel) (by decide) h (fun _ h => ?_) (fun _ h => ?_)
            · refine V_sub (ls' := [(0, .ref (a0 0))]) rfl ?_
              exact cfX5_copy_j155 C hn h
            · refine V_pb C hn [(.iload 4, 2), (.i2l, 1), (.iload 5, 2), (.i2l, 1), (.ladd, 1), (.aload_n 0, 1)] (pc' := 145) (ls' := [(0, .ref (a0 0)), (1, .int p1), (2, .int p2), (3, .int p3), (4, .int p4), (5, .int p5)]) (st' := [.ref (a0 0), .long (p4.toInt64 + p5.toInt64)]) (decB_ok (by decide +kernel)) rfl rfl ?_
              refine V_get C (v := .ref (a0 7)) (by decide +kernel) 0 15 fk_RX5_28 rfl rfl ?_
              refine V_pb C hn [(.iload_n 2, 1)] (pc' := 149) (ls' := [(0, .ref (a0 0)), (1, .int p1), (2, .int p2), (3, .int p3), (4, .int p4), (5, .int p5)]) (st' := [.int p2, .ref (a0 7), .long (p4.toInt64 + p5.toInt64)]) (decB_ok (by decide +kernel)) rfl rfl ?_
              refine V_iald C (f := (m_rowLength S0)) (by decide +kernel) 7 rfl h (fun h => ?_)
              refine V_pb C hn [(.i2l, 1), (.lcmp, 1)] (pc' := 152) (ls' := [(0, .ref (a0 0)), (1, .int p1), (2, .int p2), (3, .int p3), (4, .int p4), (5, .int p5)]) (st' := [.int (lg_cmp (p4.toInt64 + p5.toInt64) (((m_rowLength S0) (ix p2)).toInt64))]) (decB_ok (by decide +kernel)) rfl rfl ?_
              refine V_if_le C (off := 10) (tgt := 162) (by decide +kernel) (by decide) h (fun _ h => ?_) (fun _ h => ?_)
              · refine V_pb C hn [(.iload_n 1, 1), (.iload_n 2, 1)] (pc' := 164) (ls' := [(0, .ref (a0 0)), (1, .int p1), (2, .int p2), (3, .int p3), (4, .int p4), (5, .int p5)]) (st' := [.int p2, .int p1]) (decB_ok (by decide +kernel)) rfl rfl ?_
                refine V_ic_ne C (off := 58) (tgt := 222) (by decide +kernel) (by decide) h (fun _ h => ?_) (fun _ h => ?_)
                · refine V_pb C hn [(.iload_n 3, 1), (.iload 4, 2)] (pc' := 170) (ls' := [(0, .ref (a0 0)), (1, .int p1), (2, .int p2), (3, .int p3), (4, .int p4), (5, .int p5)]) (st' := [.int p4, .int p3]) (decB_ok (by decide +kernel)) rfl rfl ?_
                  refine V_ic_ge C (off := 52) (tgt := 222) (by decide +kernel) (by decide) h (fun _ h => ?_) (fun _ h => ?_)
                  · refine V_sub (ls' := [(0, .ref (a0 0)), (1, .int p1), (2, .int p2), (3, .int p3), (4, .int p4), (5, .int p5)]) rfl ?_
                    exact cfX5_copy_j222 C hn h
                  · refine V_pb C hn [(.iload 5, 2), (.iconst 1, 1), (.isub, 1), (.istore 6, 2)] (pc' := 179) (ls' := [(0, .ref (a0 0)), (1, .int p1), (2, .int p2), (3, .int p3), (4, .int p4), (5, .int p5), (6, .int (p5 - (1 : Int32)))]) (st' := []) (decB_ok (by decide +kernel)) rfl rfl ?_
                    refine V_sub (ls' := [(0, .ref (a0 0)), (1, .int p1), (2, .int p2), (3, .int p3), (4, .int p4), (5, .int p5), (6, .int (p5 - (1 : Int32)))]) rfl ?_
                    exact cfX5_copy_L179 C hn FU _ _ h
                · refine V_sub (ls' := [(0, .ref (a0 0)), (1, .int p1), (2, .int p2), (3, .int p3), (4, .int p4), (5, .int p5)]) rfl ?_
                  exact cfX5_copy_j222 C hn h
              · refine V_sub (ls' := [(0, .ref (a0 0))]) rfl ?_
                exact cfX5_copy_j155 C hn h
    · refine V_sub (ls' := [(0, .ref (a0 0))]) rfl ?_
      exact cfX5_copy_j99 C hn h
set_option maxRecDepth 100000 in
set_option maxHeartbeats 400000 in
theorem cfX5_copy {l : Launch} {G : GG} (a0 : Nat → Nat) {p1 : Int32} {p2 : Int32} {p3 : Int32} {p4 : Int32} {p5 : Int32} {S0 : MT} {out : Int32 × MT} (h : fX5_copy p1 p2 p3 p4 p5 S0 = some out) : Con l G 2 yX5_copy cX5_copy 7 (some .int) [.ref (a0 0), .int p1, .int p2, .int p3, .int p4, .int p5] (wdM G a0 S0) (some (.int out.1)) (wdM G a0 out.2) := by
  refine Con_of (by decide +kernel) (Nat.le_of_ble_eq_true rfl) (fun E hl hG hn C => ?_)
  subst hl
  subst hG
  have C : Ctx E cX5_copy RX5 2 (some .int) := C
  show V E _ _ 0 [(0, .ref (a0 0)), (1, .int p1), (2, .int p2), (3, .int p3), (4, .int p4), (5, .int p5)] []
  unfold fX5_copy at h
  refine V_pb C hn [(.iload_n 1, 1)] (pc' := 1) (ls' := [(0, .ref (a0 0)), (1, .int p1), (2, .int p2), (3, .int p3), (4, .int p4), (5, .int p5)]) (st' := [.int p1]) (decB_ok (by decide +kernel)) rfl rfl ?_
  obtain ⟨q1, h2, h⟩ := bnd h
  refine V_callSp C (As := [.int p1]) (rest := []) (by decide +kernel) ok_yX5_isShelf mk_RX5_73 (cfX5_isShelf (l := E.l) (G := E.G) h2) [] rfl rfl rfl rfl (Nat.le_of_ble_eq_true rfl) (Nat.le_of_ble_eq_true rfl) (Nat.le_of_ble_eq_true rfl) ?_
  show V E _ (wdM E.G a0 S0) 4 [(0, .ref (a0 0)), (1, .int p1), (2, .int p2), (3, .int p3), (4, .int p4), (5, .int p5)] [.int q1]
  refine V_if_eq C (off := 10) (tgt := 14) (by decide +kernel) (by decide) h (fun _ h => ?_) (fun _ h => ?_)
  · refine V_sub (ls' := [(0, .ref (a0 0))]) rfl ?_
    exact cfX5_copy_j14 C hn h
  · refine V_pb C hn [(.iload_n 2, 1)] (pc' := 8) (ls' := [(0, .ref (a0 0)), (1, .int p1), (2, .int p2), (3, .int p3), (4, .int p4), (5, .int p5)]) (st' := [.int p2]) (decB_ok (by decide +kernel)) rfl rfl ?_
    obtain ⟨q5, h6, h⟩ := bnd h
    refine V_callSp C (As := [.int p2]) (rest := []) (by decide +kernel) ok_yX5_isShelf mk_RX5_73 (cfX5_isShelf (l := E.l) (G := E.G) h6) [] rfl rfl rfl rfl (Nat.le_of_ble_eq_true rfl) (Nat.le_of_ble_eq_true rfl) (Nat.le_of_ble_eq_true rfl) ?_
    show V E _ (wdM E.G a0 S0) 11 [(0, .ref (a0 0)), (1, .int p1), (2, .int p2), (3, .int p3), (4, .int p4), (5, .int p5)] [.int q5]
    refine V_if_ne C (off := 10) (tgt := 21) (by decide +kernel) (by decide) h (fun _ h => ?_) (fun _ h => ?_)
    · refine V_sub (ls' := [(0, .ref (a0 0))]) rfl ?_
      exact cfX5_copy_j14 C hn h
    · refine V_pb C hn [(.aload_n 0, 1)] (pc' := 22) (ls' := [(0, .ref (a0 0)), (1, .int p1), (2, .int p2), (3, .int p3), (4, .int p4), (5, .int p5)]) (st' := [.ref (a0 0)]) (decB_ok (by decide +kernel)) rfl rfl ?_
      refine V_get C (v := .ref (a0 6)) (by decide +kernel) 0 14 fk_RX5_25 rfl rfl ?_
      refine V_pb C hn [(.iload_n 1, 1)] (pc' := 26) (ls' := [(0, .ref (a0 0)), (1, .int p1), (2, .int p2), (3, .int p3), (4, .int p4), (5, .int p5)]) (st' := [.int p1, .ref (a0 6)]) (decB_ok (by decide +kernel)) rfl rfl ?_
      refine V_iald C (f := (m_holding S0)) (by decide +kernel) 6 rfl h (fun h => ?_)
      refine V_pb C hn [(.bipush 10, 2)] (pc' := 29) (ls' := [(0, .ref (a0 0)), (1, .int p1), (2, .int p2), (3, .int p3), (4, .int p4), (5, .int p5)]) (st' := [.int (10 : Int32), .int ((m_holding S0) (ix p1))]) (decB_ok (by decide +kernel)) rfl rfl ?_
      refine V_ic_ge C (off := 45) (tgt := 74) (by decide +kernel) (by decide) h (fun _ h => ?_) (fun _ h => ?_)
      · refine V_sub (ls' := [(0, .ref (a0 0))]) rfl ?_
        exact cfX5_copy_j74 C hn h
      · refine V_pb C hn [(.aload_n 0, 1)] (pc' := 33) (ls' := [(0, .ref (a0 0)), (1, .int p1), (2, .int p2), (3, .int p3), (4, .int p4), (5, .int p5)]) (st' := [.ref (a0 0)]) (decB_ok (by decide +kernel)) rfl rfl ?_
        refine V_get C (v := .ref (a0 6)) (by decide +kernel) 0 14 fk_RX5_25 rfl rfl ?_
        refine V_pb C hn [(.iload_n 2, 1)] (pc' := 37) (ls' := [(0, .ref (a0 0)), (1, .int p1), (2, .int p2), (3, .int p3), (4, .int p4), (5, .int p5)]) (st' := [.int p2, .ref (a0 6)]) (decB_ok (by decide +kernel)) rfl rfl ?_
        refine V_iald C (f := (m_holding S0)) (by decide +kernel) 6 rfl h (fun h => ?_)
        refine V_pb C hn [(.bipush 10, 2)] (pc' := 40) (ls' := [(0, .ref (a0 0)), (1, .int p1), (2, .int p2), (3, .int p3), (4, .int p4), (5, .int p5)]) (st' := [.int (10 : Int32), .int ((m_holding S0) (ix p2))]) (decB_ok (by decide +kernel)) rfl rfl ?_
        refine V_ic_ge C (off := 34) (tgt := 74) (by decide +kernel) (by decide) h (fun _ h => ?_) (fun _ h => ?_)
        · refine V_sub (ls' := [(0, .ref (a0 0))]) rfl ?_
          exact cfX5_copy_j74 C hn h
        · refine V_pb C hn [(.aload_n 0, 1), (.iload_n 1, 1)] (pc' := 45) (ls' := [(0, .ref (a0 0)), (1, .int p1), (2, .int p2), (3, .int p3), (4, .int p4), (5, .int p5)]) (st' := [.int p1, .ref (a0 0)]) (decB_ok (by decide +kernel)) rfl rfl ?_
          obtain ⟨q9, h10, h⟩ := bnd h
          refine V_callV0 C (As := [.int p1]) (rest := []) (by decide +kernel) ok_yX5_isRow mk_RX5_81 (cfX5_isRow (l := E.l) (G := E.G) a0 h10) (q0 := 0) rfl rfl rfl rfl rfl rfl (Nat.le_of_ble_eq_true rfl) (Nat.le_of_ble_eq_true rfl) (Nat.le_of_ble_eq_true rfl) ?_
          show V E _ (wdM E.G a0 S0) 48 [(0, .ref (a0 0)), (1, .int p1), (2, .int p2), (3, .int p3), (4, .int p4), (5, .int p5)] [.int q9]
          refine V_if_eq C (off := 33) (tgt := 81) (by decide +kernel) (by decide) h (fun _ h => ?_) (fun _ h => ?_)
          · refine V_sub (ls' := [(0, .ref (a0 0)), (1, .int p1), (2, .int p2), (3, .int p3), (4, .int p4), (5, .int p5)]) rfl ?_
            exact cfX5_copy_j81 C hn h
          · refine V_pb C hn [(.aload_n 0, 1), (.iload_n 2, 1)] (pc' := 53) (ls' := [(0, .ref (a0 0)), (1, .int p1), (2, .int p2), (3, .int p3), (4, .int p4), (5, .int p5)]) (st' := [.int p2, .ref (a0 0)]) (decB_ok (by decide +kernel)) rfl rfl ?_
            obtain ⟨q27, h28, h⟩ := bnd h
            refine V_callV0 C (As := [.int p2]) (rest := []) (by decide +kernel) ok_yX5_isRow mk_RX5_81 (cfX5_isRow (l := E.l) (G := E.G) a0 h28) (q0 := 0) rfl rfl rfl rfl rfl rfl (Nat.le_of_ble_eq_true rfl) (Nat.le_of_ble_eq_true rfl) (Nat.le_of_ble_eq_true rfl) ?_
            show V E _ (wdM E.G a0 S0) 56 [(0, .ref (a0 0)), (1, .int p1), (2, .int p2), (3, .int p3), (4, .int p4), (5, .int p5)] [.int q27]
            refine V_if_eq C (off := 25) (tgt := 81) (by decide +kernel) (by decide) h (fun _ h => ?_) (fun _ h => ?_)
            · refine V_sub (ls' := [(0, .ref (a0 0)), (1, .int p1), (2, .int p2), (3, .int p3), (4, .int p4), (5, .int p5)]) rfl ?_
              exact cfX5_copy_j81 C hn h
            · refine V_pb C hn [(.aload_n 0, 1)] (pc' := 60) (ls' := [(0, .ref (a0 0)), (1, .int p1), (2, .int p2), (3, .int p3), (4, .int p4), (5, .int p5)]) (st' := [.ref (a0 0)]) (decB_ok (by decide +kernel)) rfl rfl ?_
              refine V_get C (v := .ref (a0 6)) (by decide +kernel) 0 14 fk_RX5_25 rfl rfl ?_
              refine V_pb C hn [(.iload_n 1, 1)] (pc' := 64) (ls' := [(0, .ref (a0 0)), (1, .int p1), (2, .int p2), (3, .int p3), (4, .int p4), (5, .int p5)]) (st' := [.int p1, .ref (a0 6)]) (decB_ok (by decide +kernel)) rfl rfl ?_
              refine V_iald C (f := (m_holding S0)) (by decide +kernel) 6 rfl h (fun h => ?_)
              refine V_pb C hn [(.aload_n 0, 1)] (pc' := 66) (ls' := [(0, .ref (a0 0)), (1, .int p1), (2, .int p2), (3, .int p3), (4, .int p4), (5, .int p5)]) (st' := [.ref (a0 0), .int ((m_holding S0) (ix p1))]) (decB_ok (by decide +kernel)) rfl rfl ?_
              refine V_get C (v := .ref (a0 6)) (by decide +kernel) 0 14 fk_RX5_25 rfl rfl ?_
              refine V_pb C hn [(.iload_n 2, 1)] (pc' := 70) (ls' := [(0, .ref (a0 0)), (1, .int p1), (2, .int p2), (3, .int p3), (4, .int p4), (5, .int p5)]) (st' := [.int p2, .ref (a0 6), .int ((m_holding S0) (ix p1))]) (decB_ok (by decide +kernel)) rfl rfl ?_
              refine V_iald C (f := (m_holding S0)) (by decide +kernel) 6 rfl h (fun h => ?_)
              refine V_ic_eq C (off := 10) (tgt := 81) (by decide +kernel) (by decide) h (fun _ h => ?_) (fun _ h => ?_)
              · refine V_sub (ls' := [(0, .ref (a0 0)), (1, .int p1), (2, .int p2), (3, .int p3), (4, .int p4), (5, .int p5)]) rfl ?_
                exact cfX5_copy_j81 C hn h
              · refine V_sub (ls' := [(0, .ref (a0 0))]) rfl ?_
                exact cfX5_copy_j74 C hn h
set_option maxRecDepth 100000 in
set_option maxHeartbeats 400000 in
theorem cfX5_element {l : Launch} {G : GG} (a0 : Nat → Nat) {p1 : Int32} {p2 : Int32} {S0 : MT} {out : Int64} (h : fX5_element p1 p2 S0 = some out) : Con l G 2 yX5_element cX5_element 3 (some .long) [.ref (a0 0), .int p1, .int p2] (wdM G a0 S0) (some (.long out)) (wdM G a0 S0) := by
  refine Con_of (by decide +kernel) (Nat.le_of_ble_eq_true rfl) (fun E hl hG hn C => ?_)
  subst hl
  subst hG
  have C : Ctx E cX5_element RX5 2 (some .long) := C
  show V E _ _ 0 [(0, .ref (a0 0)), (1, .int p1), (2, .int p2)] []
  unfold fX5_element at h
  refine V_pb C hn [(.iload_n 1, 1)] (pc' := 1) (ls' := [(0, .ref (a0 0)), (1, .int p1), (2, .int p2)]) (st' := [.int p1]) (decB_ok (by decide +kernel)) rfl rfl ?_
  obtain ⟨q1, h2, h⟩ := bnd h
  refine V_callSp C (As := [.int p1]) (rest := []) (by decide +kernel) ok_yX5_isShelf mk_RX5_73 (cfX5_isShelf (l := E.l) (G := E.G) h2) [] rfl rfl rfl rfl (Nat.le_of_ble_eq_true rfl) (Nat.le_of_ble_eq_true rfl) (Nat.le_of_ble_eq_true rfl) ?_
  show V E _ (wdM E.G a0 S0) 4 [(0, .ref (a0 0)), (1, .int p1), (2, .int p2)] [.int q1]
  refine V_if_eq C (off := 41) (tgt := 45) (by decide +kernel) (by decide) h (fun _ h => ?_) (fun _ h => ?_)
  · refine V_pb C hn [(.lconst 0, 1)] (pc' := 46) (ls' := [(0, .ref (a0 0)), (1, .int p1), (2, .int p2)]) (st' := [.long (0 : Int64)]) (decB_ok (by decide +kernel)) rfl rfl ?_
    have h := Option.some.inj h
    subst h
    exact V_lret C (by decide +kernel)
  · refine V_pb C hn [(.aload_n 0, 1), (.iload_n 1, 1)] (pc' := 9) (ls' := [(0, .ref (a0 0)), (1, .int p1), (2, .int p2)]) (st' := [.int p1, .ref (a0 0)]) (decB_ok (by decide +kernel)) rfl rfl ?_
    obtain ⟨q3, h4, h⟩ := bnd h
    refine V_callV0 C (As := [.int p1]) (rest := []) (by decide +kernel) ok_yX5_isRow mk_RX5_81 (cfX5_isRow (l := E.l) (G := E.G) a0 h4) (q0 := 0) rfl rfl rfl rfl rfl rfl (Nat.le_of_ble_eq_true rfl) (Nat.le_of_ble_eq_true rfl) (Nat.le_of_ble_eq_true rfl) ?_
    show V E _ (wdM E.G a0 S0) 12 [(0, .ref (a0 0)), (1, .int p1), (2, .int p2)] [.int q3]
    refine V_if_eq C (off := 33) (tgt := 45) (by decide +kernel) (by decide) h (fun _ h => ?_) (fun _ h => ?_)
    · refine V_pb C hn [(.lconst 0, 1)] (pc' := 46) (ls' := [(0, .ref (a0 0)), (1, .int p1), (2, .int p2)]) (st' := [.long (0 : Int64)]) (decB_ok (by decide +kernel)) rfl rfl ?_
      have h := Option.some.inj h
      subst h
      exact V_lret C (by decide +kernel)
    · refine V_pb C hn [(.iload_n 2, 1), (.iconst 0, 1), (.aload_n 0, 1)] (pc' := 18) (ls' := [(0, .ref (a0 0)), (1, .int p1), (2, .int p2)]) (st' := [.ref (a0 0), .int (0 : Int32), .int p2]) (decB_ok (by decide +kernel)) rfl rfl ?_
      refine V_get C (v := .ref (a0 7)) (by decide +kernel) 0 15 fk_RX5_28 rfl rfl ?_
      refine V_pb C hn [(.iload_n 1, 1)] (pc' := 22) (ls' := [(0, .ref (a0 0)), (1, .int p1), (2, .int p2)]) (st' := [.int p1, .ref (a0 7), .int (0 : Int32), .int p2]) (decB_ok (by decide +kernel)) rfl rfl ?_
      refine V_iald C (f := (m_rowLength S0)) (by decide +kernel) 7 rfl h (fun h => ?_)
      refine V_pb C hn [(.iconst 1, 1), (.isub, 1)] (pc' := 25) (ls' := [(0, .ref (a0 0)), (1, .int p1), (2, .int p2)]) (st' := [.int (((m_rowLength S0) (ix p1)) - (1 : Int32)), .int (0 : Int32), .int p2]) (decB_ok (by decide +kernel)) rfl rfl ?_
      obtain ⟨q5, h6, h⟩ := bnd h
      refine V_callSp C (As := [.int p2, .int (0 : Int32), .int (((m_rowLength S0) (ix p1)) - (1 : Int32))]) (rest := []) (by decide +kernel) ok_yX5_within mk_RX5_63 (cfX5_within (l := E.l) (G := E.G) h6) [] rfl rfl rfl rfl (Nat.le_of_ble_eq_true rfl) (Nat.le_of_ble_eq_true rfl) (Nat.le_of_ble_eq_true rfl) ?_
      show V E _ (wdM E.G a0 S0) 28 [(0, .ref (a0 0)), (1, .int p1), (2, .int p2)] [.int q5]
      refine V_if_eq C (off := 17) (tgt := 45) (by decide +kernel) (by decide) h (fun _ h => ?_) (fun _ h => ?_)
      · refine V_pb C hn [(.lconst 0, 1)] (pc' := 46) (ls' := [(0, .ref (a0 0)), (1, .int p1), (2, .int p2)]) (st' := [.long (0 : Int64)]) (decB_ok (by decide +kernel)) rfl rfl ?_
        have h := Option.some.inj h
        subst h
        exact V_lret C (by decide +kernel)
      · refine V_pb C hn [(.aload_n 0, 1)] (pc' := 32) (ls' := [(0, .ref (a0 0)), (1, .int p1), (2, .int p2)]) (st' := [.ref (a0 0)]) (decB_ok (by decide +kernel)) rfl rfl ?_
        refine V_get C (v := .ref (a0 8)) (by decide +kernel) 0 16 fk_RX5_31 rfl rfl ?_
        refine V_pb C hn [(.bipush 40, 2), (.iload_n 1, 1), (.imul, 1), (.iload_n 2, 1), (.iadd, 1)] (pc' := 41) (ls' := [(0, .ref (a0 0)), (1, .int p1), (2, .int p2)]) (st' := [.int (((40 : Int32) * p1) + p2), .ref (a0 8)]) (decB_ok (by decide +kernel)) rfl rfl ?_
        refine V_lald C (f := (m_rowOf S0)) (by decide +kernel) 8 rfl h (fun h => ?_)
        refine V_goto C (off := 4) (tgt := 46) (by decide +kernel) (by decide) ?_
        have h := Option.some.inj h
        subst h
        exact V_lret C (by decide +kernel)
set_option maxRecDepth 100000 in
set_option maxHeartbeats 400000 in
theorem cfX5_holds {l : Launch} {G : GG} (a0 : Nat → Nat) {p1 : Int32} {S0 : MT} {out : Int32} (h : fX5_holds p1 S0 = some out) : Con l G 2 yX5_holds cX5_holds 2 (some .int) [.ref (a0 0), .int p1] (wdM G a0 S0) (some (.int out)) (wdM G a0 S0) := by
  refine Con_of (by decide +kernel) (Nat.le_of_ble_eq_true rfl) (fun E hl hG hn C => ?_)
  subst hl
  subst hG
  have C : Ctx E cX5_holds RX5 2 (some .int) := C
  show V E _ _ 0 [(0, .ref (a0 0)), (1, .int p1)] []
  unfold fX5_holds at h
  refine V_pb C hn [(.iload_n 1, 1)] (pc' := 1) (ls' := [(0, .ref (a0 0)), (1, .int p1)]) (st' := [.int p1]) (decB_ok (by decide +kernel)) rfl rfl ?_
  obtain ⟨q1, h2, h⟩ := bnd h
  refine V_callSp C (As := [.int p1]) (rest := []) (by decide +kernel) ok_yX5_isShelf mk_RX5_73 (cfX5_isShelf (l := E.l) (G := E.G) h2) [] rfl rfl rfl rfl (Nat.le_of_ble_eq_true rfl) (Nat.le_of_ble_eq_true rfl) (Nat.le_of_ble_eq_true rfl) ?_
  show V E _ (wdM E.G a0 S0) 4 [(0, .ref (a0 0)), (1, .int p1)] [.int q1]
  refine V_if_eq C (off := 12) (tgt := 16) (by decide +kernel) (by decide) h (fun _ h => ?_) (fun _ h => ?_)
  · refine V_pb C hn [(.iconst (-1), 1)] (pc' := 17) (ls' := [(0, .ref (a0 0)), (1, .int p1)]) (st' := [.int (cI (-1))]) (decB_ok (by decide +kernel)) rfl rfl ?_
    have h := Option.some.inj h
    subst h
    exact V_iret C (by decide +kernel) rfl
  · refine V_pb C hn [(.aload_n 0, 1)] (pc' := 8) (ls' := [(0, .ref (a0 0)), (1, .int p1)]) (st' := [.ref (a0 0)]) (decB_ok (by decide +kernel)) rfl rfl ?_
    refine V_get C (v := .ref (a0 6)) (by decide +kernel) 0 14 fk_RX5_25 rfl rfl ?_
    refine V_pb C hn [(.iload_n 1, 1)] (pc' := 12) (ls' := [(0, .ref (a0 0)), (1, .int p1)]) (st' := [.int p1, .ref (a0 6)]) (decB_ok (by decide +kernel)) rfl rfl ?_
    refine V_iald C (f := (m_holding S0)) (by decide +kernel) 6 rfl h (fun h => ?_)
    refine V_goto C (off := 4) (tgt := 17) (by decide +kernel) (by decide) ?_
    have h := Option.some.inj h
    subst h
    exact V_iret C (by decide +kernel) rfl
set_option maxRecDepth 100000 in
set_option maxHeartbeats 400000 in
theorem cfX5_isMote {l : Launch} {G : GG} (a0 : Nat → Nat) {p1 : Int32} {S0 : MT} {out : Int32} (h : fX5_isMote p1 S0 = some out) : Con l G 1 yX5_isMote cX5_isMote 2 (some .boolean) [.ref (a0 0), .int p1] (wdM G a0 S0) (some (.int out)) (wdM G a0 S0) := by
  refine Con_of (by decide +kernel) (Nat.le_of_ble_eq_true rfl) (fun E hl hG hn C => ?_)
  subst hl
  subst hG
  have C : Ctx E cX5_isMote RX5 1 (some .boolean) := C
  show V E _ _ 0 [(0, .ref (a0 0)), (1, .int p1)] []
  unfold fX5_isMote at h
  refine V_pb C hn [(.iload_n 1, 1), (.iconst 0, 1), (.aload_n 0, 1)] (pc' := 3) (ls' := [(0, .ref (a0 0)), (1, .int p1)]) (st' := [.ref (a0 0), .int (0 : Int32), .int p1]) (decB_ok (by decide +kernel)) rfl rfl ?_
  refine V_get C (v := .int (m_motes S0)) (by decide +kernel) 0 1 fk_RX5_60 rfl rfl ?_
  refine V_pb C hn [(.iconst 1, 1), (.isub, 1)] (pc' := 8) (ls' := [(0, .ref (a0 0)), (1, .int p1)]) (st' := [.int ((m_motes S0) - (1 : Int32)), .int (0 : Int32), .int p1]) (decB_ok (by decide +kernel)) rfl rfl ?_
  obtain ⟨q1, h2, h⟩ := bnd h
  refine V_callSp C (As := [.int p1, .int (0 : Int32), .int ((m_motes S0) - (1 : Int32))]) (rest := []) (by decide +kernel) ok_yX5_within mk_RX5_63 (cfX5_within (l := E.l) (G := E.G) h2) [] rfl rfl rfl rfl (Nat.le_of_ble_eq_true rfl) (Nat.le_of_ble_eq_true rfl) (Nat.le_of_ble_eq_true rfl) ?_
  show V E _ (wdM E.G a0 S0) 11 [(0, .ref (a0 0)), (1, .int p1)] [.int q1]
  obtain ⟨hb9, h⟩ := gd_some h
  have h := Option.some.inj h
  subst h
  exact V_iret C (by decide +kernel) (isb_nar hb9)
set_option maxRecDepth 100000 in
set_option maxHeartbeats 400000 in
theorem cfX5_show_j20 {E : VE} (C : Ctx E cX5_show RX5 2 (some .int)) (hn : E.nL = 3) {a0 : Nat → Nat} {p1 : Int32} {p2 : Int32} {S0 : MT} {out : Int32 × MT} (h : fX5_show_j20 p1 p2 S0 = some out) : V E (QR E (some (.int out.1)) (wdM E.G a0 out.2)) (wdM E.G a0 S0) 20 [(0, .ref (a0 0))] [] := by
  unfold fX5_show_j20 at h
  refine V_pb C hn [(.aload_n 0, 1), (.bipush (-2), 2)] (pc' := 23) (ls' := [(0, .ref (a0 0))]) (st' := [.int (cI (-2)), .ref (a0 0)]) (decB_ok (by decide +kernel)) rfl rfl ?_
  obtain ⟨q3, h4, h⟩ := bnd h
  refine V_callV0 C (As := [.int (cI (-2))]) (rest := []) (by decide +kernel) ok_yX5_no mk_RX5_77 (cfX5_no (l := E.l) (G := E.G) a0 h4) (q0 := 0) rfl rfl rfl rfl rfl rfl (Nat.le_of_ble_eq_true rfl) (Nat.le_of_ble_eq_true rfl) (Nat.le_of_ble_eq_true rfl) ?_
  show V E _ (wdM E.G a0 q3.2) 26 [(0, .ref (a0 0))] [.int q3.1]
  have h := Option.some.inj h
  subst h
  exact V_iret C (by decide +kernel) rfl
set_option maxRecDepth 100000 in
set_option maxHeartbeats 400000 in
theorem cfX5_show_j45 {E : VE} (C : Ctx E cX5_show RX5 2 (some .int)) (hn : E.nL = 3) {a0 : Nat → Nat} {p1 : Int32} {p2 : Int32} {s0 : Int32} {s1 : Int32} {S0 : MT} {out : Int32 × MT} (h : fX5_show_j45 p1 p2 s0 s1 S0 = some out) : V E (QR E (some (.int out.1)) (wdM E.G a0 out.2)) (wdM E.G a0 S0) 45 [] [.int s0, .int s1, .ref (a0 6)] := by
  unfold fX5_show_j45 at h
  refine V_iast C (f := (m_holding S0)) (ws' := wdM E.G a0 (ms_holding S0 (upd (m_holding S0) (ix s1) s0))) (by decide +kernel) 6 rfl h rfl (fun h => ?_)
  refine V_pb C hn [(.iconst 1, 1)] (pc' := 47) (ls' := []) (st' := [.int (1 : Int32)]) (decB_ok (by decide +kernel)) rfl rfl ?_
  have h := Option.some.inj h
  subst h
  exact V_iret C (by decide +kernel) rfl
set_option maxRecDepth 100000 in
set_option maxHeartbeats 400000 in
theorem cfX5_show_j27 {E : VE} (C : Ctx E cX5_show RX5 2 (some .int)) (hn : E.nL = 3) {a0 : Nat → Nat} {p1 : Int32} {p2 : Int32} {S0 : MT} {out : Int32 × MT} (h : fX5_show_j27 p1 p2 S0 = some out) : V E (QR E (some (.int out.1)) (wdM E.G a0 out.2)) (wdM E.G a0 S0) 27 [(0, .ref (a0 0)), (1, .int p1), (2, .int p2)] [] := by
  unfold fX5_show_j27 at h
  refine V_pb C hn [(.aload_n 0, 1)] (pc' := 28) (ls' := [(0, .ref (a0 0)), (1, .int p1), (2, .int p2)]) (st' := [.ref (a0 0)]) (decB_ok (by decide +kernel)) rfl rfl ?_
  refine V_get C (v := .ref (a0 6)) (by decide +kernel) 0 14 fk_RX5_25 rfl rfl ?_
  refine V_pb C hn [(.iload_n 1, 1), (.iload_n 2, 1), (.iconst (-1), 1)] (pc' := 34) (ls' := [(0, .ref (a0 0)), (1, .int p1), (2, .int p2)]) (st' := [.int (cI (-1)), .int p2, .int p1, .ref (a0 6)]) (decB_ok (by decide +kernel)) rfl rfl ?_
  refine V_ic_ne C (off := 7) (tgt := 41) (by decide +kernel) (by decide) h (fun _ h => ?_) (fun _ h => ?_)
  · refine V_pb C hn [(.iconst (-1), 1)] (pc' := 38) (ls' := [(0, .ref (a0 0)), (1, .int p1), (2, .int p2)]) (st' := [.int (cI (-1)), .int p1, .ref (a0 6)]) (decB_ok (by decide +kernel)) rfl rfl ?_
    refine V_goto C (off := 7) (tgt := 45) (by decide +kernel) (by decide) ?_
    refine V_sub (ls' := []) rfl ?_
    exact cfX5_show_j45 C hn h
  · refine V_pb C hn [(.bipush 10, 2), (.iload_n 2, 1), (.iadd, 1)] (pc' := 45) (ls' := [(0, .ref (a0 0)), (1, .int p1), (2, .int p2)]) (st' := [.int ((10 : Int32) + p2), .int p1, .ref (a0 6)]) (decB_ok (by decide +kernel)) rfl rfl ?_
    refine V_sub (ls' := []) rfl ?_
    exact cfX5_show_j45 C hn h
set_option maxRecDepth 100000 in
set_option maxHeartbeats 400000 in
theorem cfX5_show {l : Launch} {G : GG} (a0 : Nat → Nat) {p1 : Int32} {p2 : Int32} {S0 : MT} {out : Int32 × MT} (h : fX5_show p1 p2 S0 = some out) : Con l G 2 yX5_show cX5_show 3 (some .int) [.ref (a0 0), .int p1, .int p2] (wdM G a0 S0) (some (.int out.1)) (wdM G a0 out.2) := by
  refine Con_of (by decide +kernel) (Nat.le_of_ble_eq_true rfl) (fun E hl hG hn C => ?_)
  subst hl
  subst hG
  have C : Ctx E cX5_show RX5 2 (some .int) := C
  show V E _ _ 0 [(0, .ref (a0 0)), (1, .int p1), (2, .int p2)] []
  unfold fX5_show at h
  refine V_pb C hn [(.iload_n 1, 1)] (pc' := 1) (ls' := [(0, .ref (a0 0)), (1, .int p1), (2, .int p2)]) (st' := [.int p1]) (decB_ok (by decide +kernel)) rfl rfl ?_
  obtain ⟨q1, h2, h⟩ := bnd h
  refine V_callSp C (As := [.int p1]) (rest := []) (by decide +kernel) ok_yX5_isShelf mk_RX5_73 (cfX5_isShelf (l := E.l) (G := E.G) h2) [] rfl rfl rfl rfl (Nat.le_of_ble_eq_true rfl) (Nat.le_of_ble_eq_true rfl) (Nat.le_of_ble_eq_true rfl) ?_
  show V E _ (wdM E.G a0 S0) 4 [(0, .ref (a0 0)), (1, .int p1), (2, .int p2)] [.int q1]
  refine V_if_eq C (off := 16) (tgt := 20) (by decide +kernel) (by decide) h (fun _ h => ?_) (fun _ h => ?_)
  · refine V_sub (ls' := [(0, .ref (a0 0))]) rfl ?_
    exact cfX5_show_j20 C hn h
  · refine V_pb C hn [(.iload_n 2, 1), (.iconst (-1), 1)] (pc' := 9) (ls' := [(0, .ref (a0 0)), (1, .int p1), (2, .int p2)]) (st' := [.int (cI (-1)), .int p2]) (decB_ok (by decide +kernel)) rfl rfl ?_
    refine V_ic_eq C (off := 18) (tgt := 27) (by decide +kernel) (by decide) h (fun _ h => ?_) (fun _ h => ?_)
    · refine V_sub (ls' := [(0, .ref (a0 0)), (1, .int p1), (2, .int p2)]) rfl ?_
      exact cfX5_show_j27 C hn h
    · refine V_pb C hn [(.aload_n 0, 1), (.iload_n 2, 1)] (pc' := 14) (ls' := [(0, .ref (a0 0)), (1, .int p1), (2, .int p2)]) (st' := [.int p2, .ref (a0 0)]) (decB_ok (by decide +kernel)) rfl rfl ?_
      obtain ⟨q5, h6, h⟩ := bnd h
      refine V_callV0 C (As := [.int p2]) (rest := []) (by decide +kernel) ok_yX5_isMote mk_RX5_91 (cfX5_isMote (l := E.l) (G := E.G) a0 h6) (q0 := 0) rfl rfl rfl rfl rfl rfl (Nat.le_of_ble_eq_true rfl) (Nat.le_of_ble_eq_true rfl) (Nat.le_of_ble_eq_true rfl) ?_
      show V E _ (wdM E.G a0 S0) 17 [(0, .ref (a0 0)), (1, .int p1), (2, .int p2)] [.int q5]
      refine V_if_ne C (off := 10) (tgt := 27) (by decide +kernel) (by decide) h (fun _ h => ?_) (fun _ h => ?_)
      · refine V_sub (ls' := [(0, .ref (a0 0))]) rfl ?_
        exact cfX5_show_j20 C hn h
      · refine V_sub (ls' := [(0, .ref (a0 0)), (1, .int p1), (2, .int p2)]) rfl ?_
        exact cfX5_show_j27 C hn h
set_option maxRecDepth 100000 in
set_option maxHeartbeats 400000 in
theorem cfX5_isUnder_j19 {E : VE} (C : Ctx E cX5_isUnder RX5 0 (some .boolean)) (hn : E.nL = 2) {p0 : Int32} {p1 : Int32} {out : Int32} (h : fX5_isUnder_j19 p0 p1 = some out) : V E (QR E (some (.int out)) (([] : va_W))) (([] : va_W)) 19 [(0, .int p0), (1, .int p1)] [] := by
  unfold fX5_isUnder_j19 at h
  refine V_pb C hn [(.iload_n 0, 1), (.iconst 4, 1)] (pc' := 21) (ls' := [(0, .int p0), (1, .int p1)]) (st' := [.int (4 : Int32), .int p0]) (decB_ok (by decide +kernel)) rfl rfl ?_
  refine V_ic_ne C (off := 12) (tgt := 33) (by decide +kernel) (by decide) h (fun _ h => ?_) (fun _ h => ?_)
  · refine V_pb C hn [(.iload_n 1, 1), (.iconst 2, 1)] (pc' := 26) (ls' := [(0, .int p0), (1, .int p1)]) (st' := [.int (2 : Int32), .int p1]) (decB_ok (by decide +kernel)) rfl rfl ?_
    refine V_ic_ne C (off := 7) (tgt := 33) (by decide +kernel) (by decide) h (fun _ h => ?_) (fun _ h => ?_)
    · refine V_pb C hn [(.iconst 1, 1)] (pc' := 30) (ls' := [(0, .int p0), (1, .int p1)]) (st' := [.int (1 : Int32)]) (decB_ok (by decide +kernel)) rfl rfl ?_
      refine V_goto C (off := 4) (tgt := 34) (by decide +kernel) (by decide) ?_
      have h := Option.some.inj h
      subst h
      exact V_iret C (v := (1 : Int32)) (by decide +kernel) nb1
    · refine V_pb C hn [(.iconst 0, 1)] (pc' := 34) (ls' := [(0, .int p0), (1, .int p1)]) (st' := [.int (0 : Int32)]) (decB_ok (by decide +kernel)) rfl rfl ?_
      have h := Option.some.inj h
      subst h
      exact V_iret C (v := (0 : Int32)) (by decide +kernel) nb0
  · refine V_pb C hn [(.iconst 0, 1)] (pc' := 34) (ls' := [(0, .int p0), (1, .int p1)]) (st' := [.int (0 : Int32)]) (decB_ok (by decide +kernel)) rfl rfl ?_
    have h := Option.some.inj h
    subst h
    exact V_iret C (v := (0 : Int32)) (by decide +kernel) nb0
set_option maxRecDepth 100000 in
set_option maxHeartbeats 400000 in
theorem cfX5_isUnder {l : Launch} {G : GG} {p0 : Int32} {p1 : Int32} {out : Int32} (h : fX5_isUnder p0 p1 = some out) : Con l G 0 yX5_isUnder cX5_isUnder 2 (some .boolean) [.int p0, .int p1] (([] : va_W)) (some (.int out)) (([] : va_W)) := by
  refine Con_of (by decide +kernel) (Nat.le_of_ble_eq_true rfl) (fun E hl hG hn C => ?_)
  subst hl
  subst hG
  have C : Ctx E cX5_isUnder RX5 0 (some .boolean) := C
  show V E _ _ 0 [(0, .int p0), (1, .int p1)] []
  unfold fX5_isUnder at h
  refine V_pb C hn [(.iload_n 1, 1)] (pc' := 1) (ls' := [(0, .int p0), (1, .int p1)]) (st' := [.int p1]) (decB_ok (by decide +kernel)) rfl rfl ?_
  refine V_if_eq C (off := 28) (tgt := 29) (by decide +kernel) (by decide) h (fun _ h => ?_) (fun _ h => ?_)
  · refine V_pb C hn [(.iconst 1, 1)] (pc' := 30) (ls' := [(0, .int p0), (1, .int p1)]) (st' := [.int (1 : Int32)]) (decB_ok (by decide +kernel)) rfl rfl ?_
    refine V_goto C (off := 4) (tgt := 34) (by decide +kernel) (by decide) ?_
    have h := Option.some.inj h
    subst h
    exact V_iret C (v := (1 : Int32)) (by decide +kernel) nb1
  · refine V_pb C hn [(.iload_n 0, 1), (.iload_n 1, 1)] (pc' := 6) (ls' := [(0, .int p0), (1, .int p1)]) (st' := [.int p1, .int p0]) (decB_ok (by decide +kernel)) rfl rfl ?_
    refine V_ic_eq C (off := 23) (tgt := 29) (by decide +kernel) (by decide) h (fun _ h => ?_) (fun _ h => ?_)
    · refine V_pb C hn [(.iconst 1, 1)] (pc' := 30) (ls' := [(0, .int p0), (1, .int p1)]) (st' := [.int (1 : Int32)]) (decB_ok (by decide +kernel)) rfl rfl ?_
      refine V_goto C (off := 4) (tgt := 34) (by decide +kernel) (by decide) ?_
      have h := Option.some.inj h
      subst h
      exact V_iret C (v := (1 : Int32)) (by decide +kernel) nb1
    · refine V_pb C hn [(.iload_n 0, 1), (.iconst 3, 1)] (pc' := 11) (ls' := [(0, .int p0), (1, .int p1)]) (st' := [.int (3 : Int32), .int p0]) (decB_ok (by decide +kernel)) rfl rfl ?_
      refine V_ic_ne C (off := 8) (tgt := 19) (by decide +kernel) (by decide) h (fun _ h => ?_) (fun _ h => ?_)
      · refine V_pb C hn [(.iload_n 1, 1), (.iconst 1, 1)] (pc' := 16) (ls' := [(0, .int p0), (1, .int p1)]) (st' := [.int (1 : Int32), .int p1]) (decB_ok (by decide +kernel)) rfl rfl ?_
        refine V_ic_eq C (off := 13) (tgt := 29) (by decide +kernel) (by decide) h (fun _ h => ?_) (fun _ h => ?_)
        · refine V_pb C hn [(.iconst 1, 1)] (pc' := 30) (ls' := [(0, .int p0), (1, .int p1)]) (st' := [.int (1 : Int32)]) (decB_ok (by decide +kernel)) rfl rfl ?_
          refine V_goto C (off := 4) (tgt := 34) (by decide +kernel) (by decide) ?_
          have h := Option.some.inj h
          subst h
          exact V_iret C (v := (1 : Int32)) (by decide +kernel) nb1
        · refine V_sub (ls' := [(0, .int p0), (1, .int p1)]) rfl ?_
          exact cfX5_isUnder_j19 C hn h
      · refine V_sub (ls' := [(0, .int p0), (1, .int p1)]) rfl ?_
        exact cfX5_isUnder_j19 C hn h
set_option maxRecDepth 100000 in
set_option maxHeartbeats 400000 in
theorem cfX5_pushed {l : Launch} {G : GG} (a0 : Nat → Nat) {p1 : Int32} {p2 : Int32} {p3 : Int32} {S0 : MT} {out : Int32} (h : fX5_pushed p1 p2 p3 S0 = some out) : Con l G 1 yX5_pushed cX5_pushed 6 (some .int) [.ref (a0 0), .int p1, .int p2, .int p3] (wdM G a0 S0) (some (.int out)) (wdM G a0 S0) := by
  refine Con_of (by decide +kernel) (Nat.le_of_ble_eq_true rfl) (fun E hl hG hn C => ?_)
  subst hl
  subst hG
  have C : Ctx E cX5_pushed RX5 1 (some .int) := C
  show V E _ _ 0 [(0, .ref (a0 0)), (1, .int p1), (2, .int p2), (3, .int p3)] []
  unfold fX5_pushed at h
  refine V_pb C hn [(.iload_n 1, 1), (.bipush 10, 2)] (pc' := 3) (ls' := [(0, .ref (a0 0)), (1, .int p1), (2, .int p2), (3, .int p3)]) (st' := [.int (10 : Int32), .int p1]) (decB_ok (by decide +kernel)) rfl rfl ?_
  refine V_idiv C (by decide +kernel) (by decide) ?_
  refine V_pb C hn [(.iload_n 2, 1), (.iadd, 1), (.istore 4, 2), (.iload_n 1, 1), (.bipush 10, 2)] (pc' := 11) (ls' := [(0, .ref (a0 0)), (1, .int p1), (2, .int p2), (3, .int p3), (4, .int ((p1 / (10 : Int32)) + p2))]) (st' := [.int (10 : Int32), .int p1]) (decB_ok (by decide +kernel)) rfl rfl ?_
  refine V_irem C (by decide +kernel) (by decide) ?_
  refine V_pb C hn [(.iload_n 3, 1), (.iadd, 1), (.istore 5, 2), (.iload 4, 2), (.iconst 0, 1), (.aload_n 0, 1)] (pc' := 20) (ls' := [(0, .ref (a0 0)), (1, .int p1), (2, .int p2), (3, .int p3), (4, .int ((p1 / (10 : Int32)) + p2)), (5, .int ((irm p1 (10 : Int32)) + p3))]) (st' := [.ref (a0 0), .int (0 : Int32), .int ((p1 / (10 : Int32)) + p2)]) (decB_ok (by decide +kernel)) rfl rfl ?_
  refine V_get C (v := .int (m_n S0)) (by decide +kernel) 0 0 fk_RX5_53 rfl rfl ?_
  refine V_pb C hn [(.iconst 1, 1), (.isub, 1)] (pc' := 25) (ls' := [(0, .ref (a0 0)), (1, .int p1), (2, .int p2), (3, .int p3), (4, .int ((p1 / (10 : Int32)) + p2)), (5, .int ((irm p1 (10 : Int32)) + p3))]) (st' := [.int ((m_n S0) - (1 : Int32)), .int (0 : Int32), .int ((p1 / (10 : Int32)) + p2)]) (decB_ok (by decide +kernel)) rfl rfl ?_
  obtain ⟨q1, h2, h⟩ := bnd h
  refine V_callSp C (As := [.int ((p1 / (10 : Int32)) + p2), .int (0 : Int32), .int ((m_n S0) - (1 : Int32))]) (rest := []) (by decide +kernel) ok_yX5_within mk_RX5_63 (cfX5_within (l := E.l) (G := E.G) h2) [] rfl rfl rfl rfl (Nat.le_of_ble_eq_true rfl) (Nat.le_of_ble_eq_true rfl) (Nat.le_of_ble_eq_true rfl) ?_
  show V E _ (wdM E.G a0 S0) 28 [(0, .ref (a0 0)), (1, .int p1), (2, .int p2), (3, .int p3), (4, .int ((p1 / (10 : Int32)) + p2)), (5, .int ((irm p1 (10 : Int32)) + p3))] [.int q1]
  refine V_if_eq C (off := 29) (tgt := 57) (by decide +kernel) (by decide) h (fun _ h => ?_) (fun _ h => ?_)
  · refine V_pb C hn [(.iload_n 1, 1)] (pc' := 58) (ls' := [(0, .ref (a0 0)), (1, .int p1), (2, .int p2), (3, .int p3), (4, .int ((p1 / (10 : Int32)) + p2)), (5, .int ((irm p1 (10 : Int32)) + p3))]) (st' := [.int p1]) (decB_ok (by decide +kernel)) rfl rfl ?_
    have h := Option.some.inj h
    subst h
    exact V_iret C (by decide +kernel) rfl
  · refine V_pb C hn [(.iload 5, 2), (.iconst 0, 1), (.aload_n 0, 1)] (pc' := 35) (ls' := [(0, .ref (a0 0)), (1, .int p1), (2, .int p2), (3, .int p3), (4, .int ((p1 / (10 : Int32)) + p2)), (5, .int ((irm p1 (10 : Int32)) + p3))]) (st' := [.ref (a0 0), .int (0 : Int32), .int ((irm p1 (10 : Int32)) + p3)]) (decB_ok (by decide +kernel)) rfl rfl ?_
    refine V_get C (v := .int (m_n S0)) (by decide +kernel) 0 0 fk_RX5_53 rfl rfl ?_
    refine V_pb C hn [(.iconst 1, 1), (.isub, 1)] (pc' := 40) (ls' := [(0, .ref (a0 0)), (1, .int p1), (2, .int p2), (3, .int p3), (4, .int ((p1 / (10 : Int32)) + p2)), (5, .int ((irm p1 (10 : Int32)) + p3))]) (st' := [.int ((m_n S0) - (1 : Int32)), .int (0 : Int32), .int ((irm p1 (10 : Int32)) + p3)]) (decB_ok (by decide +kernel)) rfl rfl ?_
    obtain ⟨q3, h4, h⟩ := bnd h
    refine V_callSp C (As := [.int ((irm p1 (10 : Int32)) + p3), .int (0 : Int32), .int ((m_n S0) - (1 : Int32))]) (rest := []) (by decide +kernel) ok_yX5_within mk_RX5_63 (cfX5_within (l := E.l) (G := E.G) h4) [] rfl rfl rfl rfl (Nat.le_of_ble_eq_true rfl) (Nat.le_of_ble_eq_true rfl) (Nat.le_of_ble_eq_true rfl) ?_
    show V E _ (wdM E.G a0 S0) 43 [(0, .ref (a0 0)), (1, .int p1), (2, .int p2), (3, .int p3), (4, .int ((p1 / (10 : Int32)) + p2)), (5, .int ((irm p1 (10 : Int32)) + p3))] [.int q3]
    refine V_if_eq C (off := 14) (tgt := 57) (by decide +kernel) (by decide) h (fun _ h => ?_) (fun _ h => ?_)
    · refine V_pb C hn [(.iload_n 1, 1)] (pc' := 58) (ls' := [(0, .ref (a0 0)), (1, .int p1), (2, .int p2), (3, .int p3), (4, .int ((p1 / (10 : Int32)) + p2)), (5, .int ((irm p1 (10 : Int32)) + p3))]) (st' := [.int p1]) (decB_ok (by decide +kernel)) rfl rfl ?_
      have h := Option.some.inj h
      subst h
      exact V_iret C (by decide +kernel) rfl
    · refine V_pb C hn [(.bipush 10, 2), (.iload 4, 2), (.imul, 1), (.iload 5, 2), (.iadd, 1)] (pc' := 54) (ls' := [(0, .ref (a0 0)), (1, .int p1), (2, .int p2), (3, .int p3), (4, .int ((p1 / (10 : Int32)) + p2)), (5, .int ((irm p1 (10 : Int32)) + p3))]) (st' := [.int (((10 : Int32) * ((p1 / (10 : Int32)) + p2)) + ((irm p1 (10 : Int32)) + p3))]) (decB_ok (by decide +kernel)) rfl rfl ?_
      refine V_goto C (off := 4) (tgt := 58) (by decide +kernel) (by decide) ?_
      have h := Option.some.inj h
      subst h
      exact V_iret C (by decide +kernel) rfl
set_option maxRecDepth 100000 in
set_option maxHeartbeats 400000 in
theorem cfX5_byDoors_j53 {E : VE} (C : Ctx E cX5_byDoors RX5 2 (some .int)) (hn : E.nL = 3) {a0 : Nat → Nat} {p1 : Int32} {S0 : MT} {v2 : Int32} {out : Int32} (h : fX5_byDoors_j53 p1 S0 v2 = some out) : V E (QR E (some (.int out)) (wdM E.G a0 S0)) (wdM E.G a0 S0) 53 [(0, .ref (a0 0)), (2, .int v2)] [] := by
  unfold fX5_byDoors_j53 at h
  refine V_pb C hn [(.aload_n 0, 1)] (pc' := 54) (ls' := [(0, .ref (a0 0)), (2, .int v2)]) (st' := [.ref (a0 0)]) (decB_ok (by decide +kernel)) rfl rfl ?_
  refine V_get C (v := .int (m_doors S0)) (by decide +kernel) 0 5 fk_RX5_109 rfl rfl ?_
  refine V_pb C hn [(.bipush 8, 2), (.iand, 1)] (pc' := 60) (ls' := [(0, .ref (a0 0)), (2, .int v2)]) (st' := [.int ((m_doors S0) &&& (8 : Int32))]) (decB_ok (by decide +kernel)) rfl rfl ?_
  refine V_if_eq C (off := 11) (tgt := 71) (by decide +kernel) (by decide) h (fun _ h => ?_) (fun _ h => ?_)
  · refine V_pb C hn [(.iload_n 2, 1)] (pc' := 72) (ls' := [(0, .ref (a0 0)), (2, .int v2)]) (st' := [.int v2]) (decB_ok (by decide +kernel)) rfl rfl ?_
    have h := Option.some.inj h
    subst h
    exact V_iret C (by decide +kernel) rfl
  · refine V_pb C hn [(.aload_n 0, 1), (.iload_n 2, 1), (.iconst 0, 1), (.iconst 1, 1)] (pc' := 67) (ls' := [(0, .ref (a0 0)), (2, .int v2)]) (st' := [.int (1 : Int32), .int (0 : Int32), .int v2, .ref (a0 0)]) (decB_ok (by decide +kernel)) rfl rfl ?_
    obtain ⟨q1, h2, h⟩ := bnd h
    refine V_callV0 C (As := [.int v2, .int (0 : Int32), .int (1 : Int32)]) (rest := []) (by decide +kernel) ok_yX5_pushed mk_RX5_189 (cfX5_pushed (l := E.l) (G := E.G) a0 h2) (q0 := 0) rfl rfl rfl rfl rfl rfl (Nat.le_of_ble_eq_true rfl) (Nat.le_of_ble_eq_true rfl) (Nat.le_of_ble_eq_true rfl) ?_
    show V E _ (wdM E.G a0 S0) 70 [(0, .ref (a0 0)), (2, .int v2)] [.int q1]
    refine V_pb C hn [(.istore_n 2, 1), (.iload_n 2, 1)] (pc' := 72) (ls' := [(0, .ref (a0 0)), (2, .int q1)]) (st' := [.int q1]) (decB_ok (by decide +kernel)) rfl rfl ?_
    have h := Option.some.inj h
    subst h
    exact V_iret C (by decide +kernel) rfl
set_option maxRecDepth 100000 in
set_option maxHeartbeats 400000 in
theorem cfX5_byDoors_j36 {E : VE} (C : Ctx E cX5_byDoors RX5 2 (some .int)) (hn : E.nL = 3) {a0 : Nat → Nat} {p1 : Int32} {S0 : MT} {v2 : Int32} {out : Int32} (h : fX5_byDoors_j36 p1 S0 v2 = some out) : V E (QR E (some (.int out)) (wdM E.G a0 S0)) (wdM E.G a0 S0) 36 [(0, .ref (a0 0)), (2, .int v2)] [] := by
  unfold fX5_byDoors_j36 at h
  refine V_pb C hn [(.aload_n 0, 1)] (pc' := 37) (ls' := [(0, .ref (a0 0)), (2, .int v2)]) (st' := [.ref (a0 0)]) (decB_ok (by decide +kernel)) rfl rfl ?_
  refine V_get C (v := .int (m_doors S0)) (by decide +kernel) 0 5 fk_RX5_109 rfl rfl ?_
  refine V_pb C hn [(.iconst 4, 1), (.iand, 1)] (pc' := 42) (ls' := [(0, .ref (a0 0)), (2, .int v2)]) (st' := [.int ((m_doors S0) &&& (4 : Int32))]) (decB_ok (by decide +kernel)) rfl rfl ?_
  refine V_if_eq C (off := 11) (tgt := 53) (by decide +kernel) (by decide) h (fun _ h => ?_) (fun _ h => ?_)
  · refine V_sub (ls' := [(0, .ref (a0 0)), (2, .int v2)]) rfl ?_
    exact cfX5_byDoors_j53 C hn h
  · refine V_pb C hn [(.aload_n 0, 1), (.iload_n 2, 1), (.iconst (-1), 1), (.iconst 0, 1)] (pc' := 49) (ls' := [(0, .ref (a0 0)), (2, .int v2)]) (st' := [.int (0 : Int32), .int (cI (-1)), .int v2, .ref (a0 0)]) (decB_ok (by decide +kernel)) rfl rfl ?_
    obtain ⟨q3, h4, h⟩ := bnd h
    refine V_callV0 C (As := [.int v2, .int (cI (-1)), .int (0 : Int32)]) (rest := []) (by decide +kernel) ok_yX5_pushed mk_RX5_189 (cfX5_pushed (l := E.l) (G := E.G) a0 h4) (q0 := 0) rfl rfl rfl rfl rfl rfl (Nat.le_of_ble_eq_true rfl) (Nat.le_of_ble_eq_true rfl) (Nat.le_of_ble_eq_true rfl) ?_
    show V E _ (wdM E.G a0 S0) 52 [(0, .ref (a0 0)), (2, .int v2)] [.int q3]
    refine V_pb C hn [(.istore_n 2, 1)] (pc' := 53) (ls' := [(0, .ref (a0 0)), (2, .int q3)]) (st' := []) (decB_ok (by decide +kernel)) rfl rfl ?_
    refine V_sub (ls' := [(0, .ref (a0 0)), (2, .int q3)]) rfl ?_
    exact cfX5_byDoors_j53 C hn h
set_option maxRecDepth 100000 in
set_option maxHeartbeats 400000 in
theorem cfX5_byDoors_j19 {E : VE} (C : Ctx E cX5_byDoors RX5 2 (some .int)) (hn : E.nL = 3) {a0 : Nat → Nat} {p1 : Int32} {S0 : MT} {v2 : Int32} {out : Int32} (h : fX5_byDoors_j19 p1 S0 v2 = some out) : V E (QR E (some (.int out)) (wdM E.G a0 S0)) (wdM E.G a0 S0) 19 [(0, .ref (a0 0)), (2, .int v2)] [] := by
  unfold fX5_byDoors_j19 at h
  refine V_pb C hn [(.aload_n 0, 1)] (pc' := 20) (ls' := [(0, .ref (a0 0)), (2, .int v2)]) (st' := [.ref (a0 0)]) (decB_ok (by decide +kernel)) rfl rfl ?_
  refine V_get C (v := .int (m_doors S0)) (by decide +kernel) 0 5 fk_RX5_109 rfl rfl ?_
  refine V_pb C hn [(.iconst 2, 1), (.iand, 1)] (pc' := 25) (ls' := [(0, .ref (a0 0)), (2, .int v2)]) (st' := [.int ((m_doors S0) &&& (2 : Int32))]) (decB_ok (by decide +kernel)) rfl rfl ?_
  refine V_if_eq C (off := 11) (tgt := 36) (by decide +kernel) (by decide) h (fun _ h => ?_) (fun _ h => ?_)
  · refine V_sub (ls' := [(0, .ref (a0 0)), (2, .int v2)]) rfl ?_
    exact cfX5_byDoors_j36 C hn h
  · refine V_pb C hn [(.aload_n 0, 1), (.iload_n 2, 1), (.iconst 0, 1), (.iconst (-1), 1)] (pc' := 32) (ls' := [(0, .ref (a0 0)), (2, .int v2)]) (st' := [.int (cI (-1)), .int (0 : Int32), .int v2, .ref (a0 0)]) (decB_ok (by decide +kernel)) rfl rfl ?_
    obtain ⟨q5, h6, h⟩ := bnd h
    refine V_callV0 C (As := [.int v2, .int (0 : Int32), .int (cI (-1))]) (rest := []) (by decide +kernel) ok_yX5_pushed mk_RX5_189 (cfX5_pushed (l := E.l) (G := E.G) a0 h6) (q0 := 0) rfl rfl rfl rfl rfl rfl (Nat.le_of_ble_eq_true rfl) (Nat.le_of_ble_eq_true rfl) (Nat.le_of_ble_eq_true rfl) ?_
    show V E _ (wdM E.G a0 S0) 35 [(0, .ref (a0 0)), (2, .int v2)] [.int q5]
    refine V_pb C hn [(.istore_n 2, 1)] (pc' := 36) (ls' := [(0, .ref (a0 0)), (2, .int q5)]) (st' := []) (decB_ok (by decide +kernel)) rfl rfl ?_
    refine V_sub (ls' := [(0, .ref (a0 0)), (2, .int q5)]) rfl ?_
    exact cfX5_byDoors_j36 C hn h
set_option maxRecDepth 100000 in
set_option maxHeartbeats 400000 in
theorem cfX5_byDoors {l : Launch} {G : GG} (a0 : Nat → Nat) {p1 : Int32} {S0 : MT} {out : Int32} (h : fX5_byDoors p1 S0 = some out) : Con l G 2 yX5_byDoors cX5_byDoors 3 (some .int) [.ref (a0 0), .int p1] (wdM G a0 S0) (some (.int out)) (wdM G a0 S0) := by
  refine Con_of (by decide +kernel) (Nat.le_of_ble_eq_true rfl) (fun E hl hG hn C => ?_)
  subst hl
  subst hG
  have C : Ctx E cX5_byDoors RX5 2 (some .int) := C
  show V E _ _ 0 [(0, .ref (a0 0)), (1, .int p1)] []
  unfold fX5_byDoors at h
  refine V_pb C hn [(.iload_n 1, 1), (.istore_n 2, 1), (.aload_n 0, 1)] (pc' := 3) (ls' := [(0, .ref (a0 0)), (1, .int p1), (2, .int p1)]) (st' := [.ref (a0 0)]) (decB_ok (by decide +kernel)) rfl rfl ?_
  refine V_get C (v := .int (m_doors S0)) (by decide +kernel) 0 5 fk_RX5_109 rfl rfl ?_
  refine V_pb C hn [(.iconst 1, 1), (.iand, 1)] (pc' := 8) (ls' := [(0, .ref (a0 0)), (1, .int p1), (2, .int p1)]) (st' := [.int ((m_doors S0) &&& (1 : Int32))]) (decB_ok (by decide +kernel)) rfl rfl ?_
  refine V_if_eq C (off := 11) (tgt := 19) (by decide +kernel) (by decide) h (fun _ h => ?_) (fun _ h => ?_)
  · refine V_sub (ls' := [(0, .ref (a0 0)), (2, .int p1)]) rfl ?_
    exact cfX5_byDoors_j19 C hn h
  · refine V_pb C hn [(.aload_n 0, 1), (.iload_n 2, 1), (.iconst 1, 1), (.iconst 0, 1)] (pc' := 15) (ls' := [(0, .ref (a0 0)), (1, .int p1), (2, .int p1)]) (st' := [.int (0 : Int32), .int (1 : Int32), .int p1, .ref (a0 0)]) (decB_ok (by decide +kernel)) rfl rfl ?_
    obtain ⟨q7, h8, h⟩ := bnd h
    refine V_callV0 C (As := [.int p1, .int (1 : Int32), .int (0 : Int32)]) (rest := []) (by decide +kernel) ok_yX5_pushed mk_RX5_189 (cfX5_pushed (l := E.l) (G := E.G) a0 h8) (q0 := 0) rfl rfl rfl rfl rfl rfl (Nat.le_of_ble_eq_true rfl) (Nat.le_of_ble_eq_true rfl) (Nat.le_of_ble_eq_true rfl) ?_
    show V E _ (wdM E.G a0 S0) 18 [(0, .ref (a0 0)), (1, .int p1), (2, .int p1)] [.int q7]
    refine V_pb C hn [(.istore_n 2, 1)] (pc' := 19) (ls' := [(0, .ref (a0 0)), (1, .int p1), (2, .int q7)]) (st' := []) (decB_ok (by decide +kernel)) rfl rfl ?_
    refine V_sub (ls' := [(0, .ref (a0 0)), (2, .int q7)]) rfl ?_
    exact cfX5_byDoors_j19 C hn h
set_option maxRecDepth 100000 in
set_option maxHeartbeats 400000 in
theorem cfX5_byAll {l : Launch} {G : GG} (a0 : Nat → Nat) {p1 : Int32} {S0 : MT} {out : Int32} (h : fX5_byAll p1 S0 = some out) : Con l G 3 yX5_byAll cX5_byAll 3 (some .int) [.ref (a0 0), .int p1] (wdM G a0 S0) (some (.int out)) (wdM G a0 S0) := by
  refine Con_of (by decide +kernel) (Nat.le_of_ble_eq_true rfl) (fun E hl hG hn C => ?_)
  subst hl
  subst hG
  have C : Ctx E cX5_byAll RX5 3 (some .int) := C
  show V E _ _ 0 [(0, .ref (a0 0)), (1, .int p1)] []
  unfold fX5_byAll at h
  refine V_pb C hn [(.aload_n 0, 1), (.iload_n 1, 1)] (pc' := 2) (ls' := [(0, .ref (a0 0)), (1, .int p1)]) (st' := [.int p1, .ref (a0 0)]) (decB_ok (by decide +kernel)) rfl rfl ?_
  obtain ⟨q1, h2, h⟩ := bnd h
  refine V_callV0 C (As := [.int p1]) (rest := []) (by decide +kernel) ok_yX5_byDoors mk_RX5_192 (cfX5_byDoors (l := E.l) (G := E.G) a0 h2) (q0 := 0) rfl rfl rfl rfl rfl rfl (Nat.le_of_ble_eq_true rfl) (Nat.le_of_ble_eq_true rfl) (Nat.le_of_ble_eq_true rfl) ?_
  show V E _ (wdM E.G a0 S0) 5 [(0, .ref (a0 0)), (1, .int p1)] [.int q1]
  refine V_pb C hn [(.istore_n 2, 1), (.aload_n 0, 1)] (pc' := 7) (ls' := [(0, .ref (a0 0)), (1, .int p1), (2, .int q1)]) (st' := [.ref (a0 0)]) (decB_ok (by decide +kernel)) rfl rfl ?_
  refine V_get C (v := .ref (a0 4)) (by decide +kernel) 0 6 fk_RX5_19 rfl rfl ?_
  refine V_pb C hn [(.iconst 0, 1)] (pc' := 11) (ls' := [(0, .ref (a0 0)), (1, .int p1), (2, .int q1)]) (st' := [.int (0 : Int32), .ref (a0 4)]) (decB_ok (by decide +kernel)) rfl rfl ?_
  refine V_iald C (f := (m_ways S0)) (by decide +kernel) 4 rfl h (fun h => ?_)
  refine V_sw (1) ?_
  refine Sw_at C (dflt := 64) (lo := 1) (hi := 4) (offs := #[32, 40, 48, 56]) (len := 32) (off := 32) (v := (1 : Int32)) (tgt := 44) (by decide +kernel) (by decide) (by decide) (by decide) rfl (by decide) h (fun _ h => ?_) (fun _ h => ?_)
  · refine V_pb C hn [(.aload_n 0, 1), (.iload_n 2, 1), (.iconst (-1), 1), (.iconst 0, 1)] (pc' := 48) (ls' := [(0, .ref (a0 0)), (1, .int p1), (2, .int q1)]) (st' := [.int (0 : Int32), .int (cI (-1)), .int q1, .ref (a0 0)]) (decB_ok (by decide +kernel)) rfl rfl ?_
    obtain ⟨q3, h4, h⟩ := bnd h
    refine V_callV0 C (As := [.int q1, .int (cI (-1)), .int (0 : Int32)]) (rest := []) (by decide +kernel) ok_yX5_pushed mk_RX5_189 (cfX5_pushed (l := E.l) (G := E.G) a0 h4) (q0 := 0) rfl rfl rfl rfl rfl rfl (Nat.le_of_ble_eq_true rfl) (Nat.le_of_ble_eq_true rfl) (Nat.le_of_ble_eq_true rfl) ?_
    show V E _ (wdM E.G a0 S0) 51 [(0, .ref (a0 0)), (1, .int p1), (2, .int q1)] [.int q3]
    have h := Option.some.inj h
    subst h
    exact V_iret C (by decide +kernel) rfl
  refine Sw_at C (dflt := 64) (lo := 1) (hi := 4) (offs := #[32, 40, 48, 56]) (len := 32) (off := 40) (v := (2 : Int32)) (tgt := 52) (by decide +kernel) (by decide) (by decide) (by decide) rfl (by decide) h (fun _ h => ?_) (fun _ h => ?_)
  · refine V_pb C hn [(.aload_n 0, 1), (.iload_n 2, 1), (.iconst 0, 1), (.iconst 1, 1)] (pc' := 56) (ls' := [(0, .ref (a0 0)), (1, .int p1), (2, .int q1)]) (st' := [.int (1 : Int32), .int (0 : Int32), .int q1, .ref (a0 0)]) (decB_ok (by decide +kernel)) rfl rfl ?_
    obtain ⟨q5, h6, h⟩ := bnd h
    refine V_callV0 C (As := [.int q1, .int (0 : Int32), .int (1 : Int32)]) (rest := []) (by decide +kernel) ok_yX5_pushed mk_RX5_189 (cfX5_pushed (l := E.l) (G := E.G) a0 h6) (q0 := 0) rfl rfl rfl rfl rfl rfl (Nat.le_of_ble_eq_true rfl) (Nat.le_of_ble_eq_true rfl) (Nat.le_of_ble_eq_true rfl) ?_
    show V E _ (wdM E.G a0 S0) 59 [(0, .ref (a0 0)), (1, .int p1), (2, .int q1)] [.int q5]
    have h := Option.some.inj h
    subst h
    exact V_iret C (by decide +kernel) rfl
  refine Sw_at C (dflt := 64) (lo := 1) (hi := 4) (offs := #[32, 40, 48, 56]) (len := 32) (off := 48) (v := (3 : Int32)) (tgt := 60) (by decide +kernel) (by decide) (by decide) (by decide) rfl (by decide) h (fun _ h => ?_) (fun _ h => ?_)
  · refine V_pb C hn [(.aload_n 0, 1), (.iload_n 2, 1), (.iconst 1, 1), (.iconst 0, 1)] (pc' := 64) (ls' := [(0, .ref (a0 0)), (1, .int p1), (2, .int q1)]) (st' := [.int (0 : Int32), .int (1 : Int32), .int q1, .ref (a0 0)]) (decB_ok (by decide +kernel)) rfl rfl ?_
    obtain ⟨q7, h8, h⟩ := bnd h
    refine V_callV0 C (As := [.int q1, .int (1 : Int32), .int (0 : Int32)]) (rest := []) (by decide +kernel) ok_yX5_pushed mk_RX5_189 (cfX5_pushed (l := E.l) (G := E.G) a0 h8) (q0 := 0) rfl rfl rfl rfl rfl rfl (Nat.le_of_ble_eq_true rfl) (Nat.le_of_ble_eq_true rfl) (Nat.le_of_ble_eq_true rfl) ?_
    show V E _ (wdM E.G a0 S0) 67 [(0, .ref (a0 0)), (1, .int p1), (2, .int q1)] [.int q7]
    have h := Option.some.inj h
    subst h
    exact V_iret C (by decide +kernel) rfl
  refine Sw_at C (dflt := 64) (lo := 1) (hi := 4) (offs := #[32, 40, 48, 56]) (len := 32) (off := 56) (v := (4 : Int32)) (tgt := 68) (by decide +kernel) (by decide) (by decide) (by decide) rfl (by decide) h (fun _ h => ?_) (fun _ h => ?_)
  · refine V_pb C hn [(.aload_n 0, 1), (.iload_n 2, 1), (.iconst 0, 1), (.iconst (-1), 1)] (pc' := 72) (ls' := [(0, .ref (a0 0)), (1, .int p1), (2, .int q1)]) (st' := [.int (cI (-1)), .int (0 : Int32), .int q1, .ref (a0 0)]) (decB_ok (by decide +kernel)) rfl rfl ?_
    obtain ⟨q9, h10, h⟩ := bnd h
    refine V_callV0 C (As := [.int q1, .int (0 : Int32), .int (cI (-1))]) (rest := []) (by decide +kernel) ok_yX5_pushed mk_RX5_189 (cfX5_pushed (l := E.l) (G := E.G) a0 h10) (q0 := 0) rfl rfl rfl rfl rfl rfl (Nat.le_of_ble_eq_true rfl) (Nat.le_of_ble_eq_true rfl) (Nat.le_of_ble_eq_true rfl) ?_
    show V E _ (wdM E.G a0 S0) 75 [(0, .ref (a0 0)), (1, .int p1), (2, .int q1)] [.int q9]
    have h := Option.some.inj h
    subst h
    exact V_iret C (by decide +kernel) rfl
  refine Sw_end C (dflt := 64) (lo := 1) (hi := 4) (offs := #[32, 40, 48, 56]) (len := 32) (tgt := 76) (by decide +kernel) (by decide) (by decide) ?_
  refine V_pb C hn [(.iload_n 2, 1)] (pc' := 77) (ls' := [(0, .ref (a0 0)), (1, .int p1), (2, .int q1)]) (st' := [.int q1]) (decB_ok (by decide +kernel)) rfl rfl ?_
  have h := Option.some.inj h
  subst h
  exact V_iret C (by decide +kernel) rfl
set_option maxRecDepth 100000 in
set_option maxHeartbeats 400000 in
theorem cfX5_asHeavy {l : Launch} {G : GG} (a0 : Nat → Nat) {p1 : Int32} {S0 : MT} {out : Int32} (h : fX5_asHeavy p1 S0 = some out) : Con l G 4 yX5_asHeavy cX5_asHeavy 2 (some .int) [.ref (a0 0), .int p1] (wdM G a0 S0) (some (.int out)) (wdM G a0 S0) := by
  refine Con_of (by decide +kernel) (Nat.le_of_ble_eq_true rfl) (fun E hl hG hn C => ?_)
  subst hl
  subst hG
  have C : Ctx E cX5_asHeavy RX5 4 (some .int) := C
  show V E _ _ 0 [(0, .ref (a0 0)), (1, .int p1)] []
  unfold fX5_asHeavy at h
  refine V_pb C hn [(.aload_n 0, 1)] (pc' := 1) (ls' := [(0, .ref (a0 0)), (1, .int p1)]) (st' := [.ref (a0 0)]) (decB_ok (by decide +kernel)) rfl rfl ?_
  refine V_get C (v := .ref (a0 4)) (by decide +kernel) 0 6 fk_RX5_19 rfl rfl ?_
  refine V_pb C hn [(.iconst 2, 1)] (pc' := 5) (ls' := [(0, .ref (a0 0)), (1, .int p1)]) (st' := [.int (2 : Int32), .ref (a0 4)]) (decB_ok (by decide +kernel)) rfl rfl ?_
  refine V_iald C (f := (m_ways S0)) (by decide +kernel) 4 rfl h (fun h => ?_)
  refine V_pb C hn [(.iconst 2, 1)] (pc' := 7) (ls' := [(0, .ref (a0 0)), (1, .int p1)]) (st' := [.int (2 : Int32), .int ((m_ways S0) (ix (2 : Int32)))]) (decB_ok (by decide +kernel)) rfl rfl ?_
  refine V_irem C (by decide +kernel) (by decide) ?_
  refine V_pb C hn [(.iconst 1, 1)] (pc' := 9) (ls' := [(0, .ref (a0 0)), (1, .int p1)]) (st' := [.int (1 : Int32), .int (irm ((m_ways S0) (ix (2 : Int32))) (2 : Int32))]) (decB_ok (by decide +kernel)) rfl rfl ?_
  refine V_ic_ne C (off := 11) (tgt := 20) (by decide +kernel) (by decide) h (fun _ h => ?_) (fun _ h => ?_)
  · refine V_pb C hn [(.aload_n 0, 1), (.iload_n 1, 1)] (pc' := 14) (ls' := [(0, .ref (a0 0)), (1, .int p1)]) (st' := [.int p1, .ref (a0 0)]) (decB_ok (by decide +kernel)) rfl rfl ?_
    obtain ⟨q1, h2, h⟩ := bnd h
    refine V_callV0 C (As := [.int p1]) (rest := []) (by decide +kernel) ok_yX5_byAll mk_RX5_198 (cfX5_byAll (l := E.l) (G := E.G) a0 h2) (q0 := 0) rfl rfl rfl rfl rfl rfl (Nat.le_of_ble_eq_true rfl) (Nat.le_of_ble_eq_true rfl) (Nat.le_of_ble_eq_true rfl) ?_
    show V E _ (wdM E.G a0 S0) 17 [(0, .ref (a0 0)), (1, .int p1)] [.int q1]
    refine V_goto C (off := 4) (tgt := 21) (by decide +kernel) (by decide) ?_
    have h := Option.some.inj h
    subst h
    exact V_iret C (by decide +kernel) rfl
  · refine V_pb C hn [(.iload_n 1, 1)] (pc' := 21) (ls' := [(0, .ref (a0 0)), (1, .int p1)]) (st' := [.int p1]) (decB_ok (by decide +kernel)) rfl rfl ?_
    have h := Option.some.inj h
    subst h
    exact V_iret C (by decide +kernel) rfl
set_option maxRecDepth 100000 in
set_option maxHeartbeats 400000 in
theorem cfX5_beamIn {l : Launch} {G : GG} (a0 : Nat → Nat) {p1 : Int32} {p2 : Int32} {S0 : MT} {out : Int32} (h : fX5_beamIn p1 p2 S0 = some out) : Con l G 0 yX5_beamIn cX5_beamIn 3 (some .int) [.ref (a0 0), .int p1, .int p2] (wdM G a0 S0) (some (.int out)) (wdM G a0 S0) := by
  refine Con_of (by decide +kernel) (Nat.le_of_ble_eq_true rfl) (fun E hl hG hn C => ?_)
  subst hl
  subst hG
  have C : Ctx E cX5_beamIn RX5 0 (some .int) := C
  show V E _ _ 0 [(0, .ref (a0 0)), (1, .int p1), (2, .int p2)] []
  unfold fX5_beamIn at h
  refine V_pb C hn [(.iload_n 2, 1), (.aload_n 0, 1)] (pc' := 2) (ls' := [(0, .ref (a0 0)), (1, .int p1), (2, .int p2)]) (st' := [.ref (a0 0), .int p2]) (decB_ok (by decide +kernel)) rfl rfl ?_
  refine V_get C (v := .ref (a0 4)) (by decide +kernel) 0 6 fk_RX5_19 rfl rfl ?_
  refine V_pb C hn [(.iconst 3, 1)] (pc' := 6) (ls' := [(0, .ref (a0 0)), (1, .int p1), (2, .int p2)]) (st' := [.int (3 : Int32), .ref (a0 4), .int p2]) (decB_ok (by decide +kernel)) rfl rfl ?_
  refine V_iald C (f := (m_ways S0)) (by decide +kernel) 4 rfl h (fun h => ?_)
  refine V_pb C hn [(.iadd, 1), (.iload_n 1, 1), (.iadd, 1), (.aload_n 0, 1)] (pc' := 11) (ls' := [(0, .ref (a0 0)), (1, .int p1), (2, .int p2)]) (st' := [.ref (a0 0), .int ((p2 + ((m_ways S0) (ix (3 : Int32)))) + p1)]) (decB_ok (by decide +kernel)) rfl rfl ?_
  refine V_get C (v := .int (m_n S0)) (by decide +kernel) 0 0 fk_RX5_53 rfl rfl ?_
  obtain ⟨hd1, h⟩ := dv_some h
  refine V_irem C (by decide +kernel) hd1 ?_
  have h := Option.some.inj h
  subst h
  exact V_iret C (by decide +kernel) rfl
set_option maxRecDepth 100000 in
set_option maxHeartbeats 400000 in
theorem cfX5_isLit {l : Launch} {G : GG} (a0 : Nat → Nat) {p1 : Int32} {p2 : Int32} {S0 : MT} {out : Int32} (h : fX5_isLit p1 p2 S0 = some out) : Con l G 1 yX5_isLit cX5_isLit 3 (some .boolean) [.ref (a0 0), .int p1, .int p2] (wdM G a0 S0) (some (.int out)) (wdM G a0 S0) := by
  refine Con_of (by decide +kernel) (Nat.le_of_ble_eq_true rfl) (fun E hl hG hn C => ?_)
  subst hl
  subst hG
  have C : Ctx E cX5_isLit RX5 1 (some .boolean) := C
  show V E _ _ 0 [(0, .ref (a0 0)), (1, .int p1), (2, .int p2)] []
  unfold fX5_isLit at h
  refine V_pb C hn [(.iload_n 1, 1), (.bipush 10, 2)] (pc' := 3) (ls' := [(0, .ref (a0 0)), (1, .int p1), (2, .int p2)]) (st' := [.int (10 : Int32), .int p1]) (decB_ok (by decide +kernel)) rfl rfl ?_
  refine V_irem C (by decide +kernel) (by decide) ?_
  refine V_pb C hn [(.aload_n 0, 1), (.iload_n 1, 1), (.bipush 10, 2)] (pc' := 8) (ls' := [(0, .ref (a0 0)), (1, .int p1), (2, .int p2)]) (st' := [.int (10 : Int32), .int p1, .ref (a0 0), .int (irm p1 (10 : Int32))]) (decB_ok (by decide +kernel)) rfl rfl ?_
  refine V_idiv C (by decide +kernel) (by decide) ?_
  refine V_pb C hn [(.iload_n 2, 1)] (pc' := 10) (ls' := [(0, .ref (a0 0)), (1, .int p1), (2, .int p2)]) (st' := [.int p2, .int (p1 / (10 : Int32)), .ref (a0 0), .int (irm p1 (10 : Int32))]) (decB_ok (by decide +kernel)) rfl rfl ?_
  obtain ⟨q1, h2, h⟩ := bnd h
  refine V_callV0 C (As := [.int (p1 / (10 : Int32)), .int p2]) (rest := [.int (irm p1 (10 : Int32))]) (by decide +kernel) ok_yX5_beamIn mk_RX5_195 (cfX5_beamIn (l := E.l) (G := E.G) a0 h2) (q0 := 0) rfl rfl rfl rfl rfl rfl (Nat.le_of_ble_eq_true rfl) (Nat.le_of_ble_eq_true rfl) (Nat.le_of_ble_eq_true rfl) ?_
  show V E _ (wdM E.G a0 S0) 13 [(0, .ref (a0 0)), (1, .int p1), (2, .int p2)] [.int q1, .int (irm p1 (10 : Int32))]
  refine V_ic_ne C (off := 7) (tgt := 20) (by decide +kernel) (by decide) h (fun _ h => ?_) (fun _ h => ?_)
  · refine V_pb C hn [(.iconst 1, 1)] (pc' := 17) (ls' := [(0, .ref (a0 0)), (1, .int p1), (2, .int p2)]) (st' := [.int (1 : Int32)]) (decB_ok (by decide +kernel)) rfl rfl ?_
    refine V_goto C (off := 4) (tgt := 21) (by decide +kernel) (by decide) ?_
    have h := Option.some.inj h
    subst h
    exact V_iret C (v := (1 : Int32)) (by decide +kernel) nb1
  · refine V_pb C hn [(.iconst 0, 1)] (pc' := 21) (ls' := [(0, .ref (a0 0)), (1, .int p1), (2, .int p2)]) (st' := [.int (0 : Int32)]) (decB_ok (by decide +kernel)) rfl rfl ?_
    have h := Option.some.inj h
    subst h
    exact V_iret C (v := (0 : Int32)) (by decide +kernel) nb0
set_option maxRecDepth 100000 in
set_option maxHeartbeats 400000 in
theorem cfX5_asMote {l : Launch} {G : GG} (a0 : Nat → Nat) {p1 : Int32} {S0 : MT} {out : Int32} (h : fX5_asMote p1 S0 = some out) : Con l G 4 yX5_asMote cX5_asMote 3 (some .int) [.ref (a0 0), .int p1] (wdM G a0 S0) (some (.int out)) (wdM G a0 S0) := by
  refine Con_of (by decide +kernel) (Nat.le_of_ble_eq_true rfl) (fun E hl hG hn C => ?_)
  subst hl
  subst hG
  have C : Ctx E cX5_asMote RX5 4 (some .int) := C
  show V E _ _ 0 [(0, .ref (a0 0)), (1, .int p1)] []
  unfold fX5_asMote at h
  refine V_pb C hn [(.aload_n 0, 1), (.iload_n 1, 1)] (pc' := 2) (ls' := [(0, .ref (a0 0)), (1, .int p1)]) (st' := [.int p1, .ref (a0 0)]) (decB_ok (by decide +kernel)) rfl rfl ?_
  obtain ⟨q1, h2, h⟩ := bnd h
  refine V_callV0 C (As := [.int p1]) (rest := []) (by decide +kernel) ok_yX5_byAll mk_RX5_198 (cfX5_byAll (l := E.l) (G := E.G) a0 h2) (q0 := 0) rfl rfl rfl rfl rfl rfl (Nat.le_of_ble_eq_true rfl) (Nat.le_of_ble_eq_true rfl) (Nat.le_of_ble_eq_true rfl) ?_
  show V E _ (wdM E.G a0 S0) 5 [(0, .ref (a0 0)), (1, .int p1)] [.int q1]
  refine V_pb C hn [(.istore_n 2, 1), (.aload_n 0, 1)] (pc' := 7) (ls' := [(0, .ref (a0 0)), (1, .int p1), (2, .int q1)]) (st' := [.ref (a0 0)]) (decB_ok (by decide +kernel)) rfl rfl ?_
  refine V_get C (v := .ref (a0 4)) (by decide +kernel) 0 6 fk_RX5_19 rfl rfl ?_
  refine V_pb C hn [(.iconst 1, 1)] (pc' := 11) (ls' := [(0, .ref (a0 0)), (1, .int p1), (2, .int q1)]) (st' := [.int (1 : Int32), .ref (a0 4)]) (decB_ok (by decide +kernel)) rfl rfl ?_
  refine V_iald C (f := (m_ways S0)) (by decide +kernel) 4 rfl h (fun h => ?_)
  refine V_pb C hn [(.iconst 4, 1)] (pc' := 13) (ls' := [(0, .ref (a0 0)), (1, .int p1), (2, .int q1)]) (st' := [.int (4 : Int32), .int ((m_ways S0) (ix (1 : Int32)))]) (decB_ok (by decide +kernel)) rfl rfl ?_
  refine V_ic_le C (off := 24) (tgt := 37) (by decide +kernel) (by decide) h (fun _ h => ?_) (fun _ h => ?_)
  · refine V_pb C hn [(.iload_n 2, 1)] (pc' := 38) (ls' := [(0, .ref (a0 0)), (1, .int p1), (2, .int q1)]) (st' := [.int q1]) (decB_ok (by decide +kernel)) rfl rfl ?_
    have h := Option.some.inj h
    subst h
    exact V_iret C (by decide +kernel) rfl
  · refine V_pb C hn [(.aload_n 0, 1)] (pc' := 17) (ls' := [(0, .ref (a0 0)), (1, .int p1), (2, .int q1)]) (st' := [.ref (a0 0)]) (decB_ok (by decide +kernel)) rfl rfl ?_
    refine V_get C (v := .ref (a0 4)) (by decide +kernel) 0 6 fk_RX5_19 rfl rfl ?_
    refine V_pb C hn [(.iconst 2, 1)] (pc' := 21) (ls' := [(0, .ref (a0 0)), (1, .int p1), (2, .int q1)]) (st' := [.int (2 : Int32), .ref (a0 4)]) (decB_ok (by decide +kernel)) rfl rfl ?_
    refine V_iald C (f := (m_ways S0)) (by decide +kernel) 4 rfl h (fun h => ?_)
    refine V_pb C hn [(.iconst 2, 1)] (pc' := 23) (ls' := [(0, .ref (a0 0)), (1, .int p1), (2, .int q1)]) (st' := [.int (2 : Int32), .int ((m_ways S0) (ix (2 : Int32)))]) (decB_ok (by decide +kernel)) rfl rfl ?_
    refine V_irem C (by decide +kernel) (by decide) ?_
    refine V_if_ne C (off := 13) (tgt := 37) (by decide +kernel) (by decide) h (fun _ h => ?_) (fun _ h => ?_)
    · refine V_pb C hn [(.aload_n 0, 1), (.iload_n 2, 1), (.iconst (-1), 1), (.iconst 0, 1)] (pc' := 31) (ls' := [(0, .ref (a0 0)), (1, .int p1), (2, .int q1)]) (st' := [.int (0 : Int32), .int (cI (-1)), .int q1, .ref (a0 0)]) (decB_ok (by decide +kernel)) rfl rfl ?_
      obtain ⟨q3, h4, h⟩ := bnd h
      refine V_callV0 C (As := [.int q1, .int (cI (-1)), .int (0 : Int32)]) (rest := []) (by decide +kernel) ok_yX5_pushed mk_RX5_189 (cfX5_pushed (l := E.l) (G := E.G) a0 h4) (q0 := 0) rfl rfl rfl rfl rfl rfl (Nat.le_of_ble_eq_true rfl) (Nat.le_of_ble_eq_true rfl) (Nat.le_of_ble_eq_true rfl) ?_
      show V E _ (wdM E.G a0 S0) 34 [(0, .ref (a0 0)), (1, .int p1), (2, .int q1)] [.int q3]
      refine V_goto C (off := 4) (tgt := 38) (by decide +kernel) (by decide) ?_
      have h := Option.some.inj h
      subst h
      exact V_iret C (by decide +kernel) rfl
    · refine V_pb C hn [(.iload_n 2, 1)] (pc' := 38) (ls' := [(0, .ref (a0 0)), (1, .int p1), (2, .int q1)]) (st' := [.int q1]) (decB_ok (by decide +kernel)) rfl rfl ?_
      have h := Option.some.inj h
      subst h
      exact V_iret C (by decide +kernel) rfl
set_option maxRecDepth 100000 in
set_option maxHeartbeats 400000 in
theorem cfX5_asSpark_j65 {E : VE} (C : Ctx E cX5_asSpark RX5 5 (some .int)) (hn : E.nL = 4) {a0 : Nat → Nat} {p1 : Int32} {S0 : MT} {s0 : Int32} {s1 : Int32} {s2 : Int32} {out : Int32} (h : fX5_asSpark_j65 p1 S0 s0 s1 s2 = some out) : V E (QR E (some (.int out)) (wdM E.G a0 S0)) (wdM E.G a0 S0) 65 [] [.int s0, .int s1, .int s2, .ref (a0 0)] := by
  unfold fX5_asSpark_j65 at h
  obtain ⟨q7, h8, h⟩ := bnd h
  refine V_callV0 C (As := [.int s2, .int s1, .int s0]) (rest := []) (by decide +kernel) ok_yX5_pushed mk_RX5_189 (cfX5_pushed (l := E.l) (G := E.G) a0 h8) (q0 := 0) rfl rfl rfl rfl rfl rfl (Nat.le_of_ble_eq_true rfl) (Nat.le_of_ble_eq_true rfl) (Nat.le_of_ble_eq_true rfl) ?_
  show V E _ (wdM E.G a0 S0) 68 [] [.int q7]
  have h := Option.some.inj h
  subst h
  exact V_iret C (by decide +kernel) rfl
set_option maxRecDepth 100000 in
set_option maxHeartbeats 400000 in
theorem cfX5_asSpark {l : Launch} {G : GG} (a0 : Nat → Nat) {p1 : Int32} {S0 : MT} {out : Int32} (h : fX5_asSpark p1 S0 = some out) : Con l G 5 yX5_asSpark cX5_asSpark 4 (some .int) [.ref (a0 0), .int p1] (wdM G a0 S0) (some (.int out)) (wdM G a0 S0) := by
  refine Con_of (by decide +kernel) (Nat.le_of_ble_eq_true rfl) (fun E hl hG hn C => ?_)
  subst hl
  subst hG
  have C : Ctx E cX5_asSpark RX5 5 (some .int) := C
  show V E _ _ 0 [(0, .ref (a0 0)), (1, .int p1)] []
  unfold fX5_asSpark at h
  refine V_pb C hn [(.aload_n 0, 1), (.iload_n 1, 1), (.aload_n 0, 1)] (pc' := 3) (ls' := [(0, .ref (a0 0)), (1, .int p1)]) (st' := [.ref (a0 0), .int p1, .ref (a0 0)]) (decB_ok (by decide +kernel)) rfl rfl ?_
  refine V_get C (v := .ref (a0 4)) (by decide +kernel) 0 6 fk_RX5_19 rfl rfl ?_
  refine V_pb C hn [(.iconst 2, 1)] (pc' := 7) (ls' := [(0, .ref (a0 0)), (1, .int p1)]) (st' := [.int (2 : Int32), .ref (a0 4), .int p1, .ref (a0 0)]) (decB_ok (by decide +kernel)) rfl rfl ?_
  refine V_iald C (f := (m_ways S0)) (by decide +kernel) 4 rfl h (fun h => ?_)
  obtain ⟨q1, h2, h⟩ := bnd h
  refine V_callV0 C (As := [.int p1, .int ((m_ways S0) (ix (2 : Int32)))]) (rest := []) (by decide +kernel) ok_yX5_isLit mk_RX5_201 (cfX5_isLit (l := E.l) (G := E.G) a0 h2) (q0 := 0) rfl rfl rfl rfl rfl rfl (Nat.le_of_ble_eq_true rfl) (Nat.le_of_ble_eq_true rfl) (Nat.le_of_ble_eq_true rfl) ?_
  show V E _ (wdM E.G a0 S0) 11 [(0, .ref (a0 0)), (1, .int p1)] [.int q1]
  refine V_if_eq C (off := 5) (tgt := 16) (by decide +kernel) (by decide) h (fun _ h => ?_) (fun _ h => ?_)
  · refine V_pb C hn [(.aload_n 0, 1), (.iload_n 1, 1)] (pc' := 18) (ls' := [(0, .ref (a0 0)), (1, .int p1)]) (st' := [.int p1, .ref (a0 0)]) (decB_ok (by decide +kernel)) rfl rfl ?_
    obtain ⟨q3, h4, h⟩ := bnd h
    refine V_callV0 C (As := [.int p1]) (rest := []) (by decide +kernel) ok_yX5_asMote mk_RX5_204 (cfX5_asMote (l := E.l) (G := E.G) a0 h4) (q0 := 0) rfl rfl rfl rfl rfl rfl (Nat.le_of_ble_eq_true rfl) (Nat.le_of_ble_eq_true rfl) (Nat.le_of_ble_eq_true rfl) ?_
    show V E _ (wdM E.G a0 S0) 21 [(0, .ref (a0 0)), (1, .int p1)] [.int q3]
    refine V_pb C hn [(.istore_n 2, 1), (.aload_n 0, 1), (.iload_n 2, 1), (.bipush 10, 2)] (pc' := 26) (ls' := [(0, .ref (a0 0)), (1, .int p1), (2, .int q3)]) (st' := [.int (10 : Int32), .int q3, .ref (a0 0)]) (decB_ok (by decide +kernel)) rfl rfl ?_
    refine V_idiv C (by decide +kernel) (by decide) ?_
    refine V_pb C hn [(.aload_n 0, 1)] (pc' := 28) (ls' := [(0, .ref (a0 0)), (1, .int p1), (2, .int q3)]) (st' := [.ref (a0 0), .int (q3 / (10 : Int32)), .ref (a0 0)]) (decB_ok (by decide +kernel)) rfl rfl ?_
    refine V_get C (v := .ref (a0 4)) (by decide +kernel) 0 6 fk_RX5_19 rfl rfl ?_
    refine V_pb C hn [(.iconst 2, 1)] (pc' := 32) (ls' := [(0, .ref (a0 0)), (1, .int p1), (2, .int q3)]) (st' := [.int (2 : Int32), .ref (a0 4), .int (q3 / (10 : Int32)), .ref (a0 0)]) (decB_ok (by decide +kernel)) rfl rfl ?_
    refine V_iald C (f := (m_ways S0)) (by decide +kernel) 4 rfl h (fun h => ?_)
    obtain ⟨q5, h6, h⟩ := bnd h
    refine V_callV0 C (As := [.int (q3 / (10 : Int32)), .int ((m_ways S0) (ix (2 : Int32)))]) (rest := []) (by decide +kernel) ok_yX5_beamIn mk_RX5_195 (cfX5_beamIn (l := E.l) (G := E.G) a0 h6) (q0 := 0) rfl rfl rfl rfl rfl rfl (Nat.le_of_ble_eq_true rfl) (Nat.le_of_ble_eq_true rfl) (Nat.le_of_ble_eq_true rfl) ?_
    show V E _ (wdM E.G a0 S0) 36 [(0, .ref (a0 0)), (1, .int p1), (2, .int q3)] [.int q5]
    refine V_pb C hn [(.istore_n 3, 1), (.iload_n 3, 1), (.iload_n 2, 1), (.bipush 10, 2)] (pc' := 41) (ls' := [(0, .ref (a0 0)), (1, .int p1), (2, .int q3), (3, .int q5)]) (st' := [.int (10 : Int32), .int q3, .int q5]) (decB_ok (by decide +kernel)) rfl rfl ?_
    refine V_irem C (by decide +kernel) (by decide) ?_
    refine V_ic_ne C (off := 7) (tgt := 49) (by decide +kernel) (by decide) h (fun _ h => ?_) (fun _ h => ?_)
    · refine V_pb C hn [(.iload_n 2, 1)] (pc' := 46) (ls' := [(0, .ref (a0 0)), (1, .int p1), (2, .int q3), (3, .int q5)]) (st' := [.int q3]) (decB_ok (by decide +kernel)) rfl rfl ?_
      refine V_goto C (off := 22) (tgt := 68) (by decide +kernel) (by decide) ?_
      have h := Option.some.inj h
      subst h
      exact V_iret C (by decide +kernel) rfl
    · refine V_pb C hn [(.aload_n 0, 1), (.iload_n 2, 1), (.iconst 0, 1), (.iload_n 3, 1), (.iload_n 2, 1), (.bipush 10, 2)] (pc' := 56) (ls' := [(0, .ref (a0 0)), (1, .int p1), (2, .int q3), (3, .int q5)]) (st' := [.int (10 : Int32), .int q3, .int q5, .int (0 : Int32), .int q3, .ref (a0 0)]) (decB_ok (by decide +kernel)) rfl rfl ?_
      refine V_irem C (by decide +kernel) (by decide) ?_
      refine V_ic_le C (off := 7) (tgt := 64) (by decide +kernel) (by decide) h (fun _ h => ?_) (fun _ h => ?_)
      · refine V_pb C hn [(.iconst (-1), 1)] (pc' := 65) (ls' := [(0, .ref (a0 0)), (1, .int p1), (2, .int q3), (3, .int q5)]) (st' := [.int (cI (-1)), .int (0 : Int32), .int q3, .ref (a0 0)]) (decB_ok (by decide +kernel)) rfl rfl ?_
        refine V_sub (ls' := []) rfl ?_
        exact cfX5_asSpark_j65 C hn h
      · refine V_pb C hn [(.iconst 1, 1)] (pc' := 61) (ls' := [(0, .ref (a0 0)), (1, .int p1), (2, .int q3), (3, .int q5)]) (st' := [.int (1 : Int32), .int (0 : Int32), .int q3, .ref (a0 0)]) (decB_ok (by decide +kernel)) rfl rfl ?_
        refine V_goto C (off := 4) (tgt := 65) (by decide +kernel) (by decide) ?_
        refine V_sub (ls' := []) rfl ?_
        exact cfX5_asSpark_j65 C hn h
  · refine V_pb C hn [(.iload_n 1, 1)] (pc' := 15) (ls' := [(0, .ref (a0 0)), (1, .int p1)]) (st' := [.int p1]) (decB_ok (by decide +kernel)) rfl rfl ?_
    have h := Option.some.inj h
    subst h
    exact V_iret C (by decide +kernel) rfl
set_option maxRecDepth 100000 in
set_option maxHeartbeats 400000 in
theorem cfX5_goes {l : Launch} {G : GG} (a0 : Nat → Nat) {p1 : Int32} {p2 : Int32} {S0 : MT} {out : Int32} (h : fX5_goes p1 p2 S0 = some out) : Con l G 6 yX5_goes cX5_goes 3 (some .int) [.ref (a0 0), .int p1, .int p2] (wdM G a0 S0) (some (.int out)) (wdM G a0 S0) := by
  refine Con_of (by decide +kernel) (Nat.le_of_ble_eq_true rfl) (fun E hl hG hn C => ?_)
  subst hl
  subst hG
  have C : Ctx E cX5_goes RX5 6 (some .int) := C
  show V E _ _ 0 [(0, .ref (a0 0)), (1, .int p1), (2, .int p2)] []
  unfold fX5_goes at h
  refine V_pb C hn [(.iload_n 1, 1)] (pc' := 1) (ls' := [(0, .ref (a0 0)), (1, .int p1), (2, .int p2)]) (st' := [.int p1]) (decB_ok (by decide +kernel)) rfl rfl ?_
  refine V_sw (1) ?_
  refine Sw_at C (dflt := 89) (lo := 1) (hi := 5) (offs := #[35, 41, 65, 77, 83]) (len := 35) (off := 35) (v := (1 : Int32)) (tgt := 36) (by decide +kernel) (by decide) (by decide) (by decide) rfl (by decide) h (fun _ h => ?_) (fun _ h => ?_)
  · refine V_pb C hn [(.aload_n 0, 1), (.iload_n 2, 1)] (pc' := 38) (ls' := [(0, .ref (a0 0)), (1, .int p1), (2, .int p2)]) (st' := [.int p2, .ref (a0 0)]) (decB_ok (by decide +kernel)) rfl rfl ?_
    obtain ⟨q1, h2, h⟩ := bnd h
    refine V_callV0 C (As := [.int p2]) (rest := []) (by decide +kernel) ok_yX5_asHeavy mk_RX5_207 (cfX5_asHeavy (l := E.l) (G := E.G) a0 h2) (q0 := 0) rfl rfl rfl rfl rfl rfl (Nat.le_of_ble_eq_true rfl) (Nat.le_of_ble_eq_true rfl) (Nat.le_of_ble_eq_true rfl) ?_
    show V E _ (wdM E.G a0 S0) 41 [(0, .ref (a0 0)), (1, .int p1), (2, .int p2)] [.int q1]
    have h := Option.some.inj h
    subst h
    exact V_iret C (by decide +kernel) rfl
  refine Sw_at C (dflt := 89) (lo := 1) (hi := 5) (offs := #[35, 41, 65, 77, 83]) (len := 35) (off := 41) (v := (2 : Int32)) (tgt := 42) (by decide +kernel) (by decide) (by decide) (by decide) rfl (by decide) h (fun _ h => ?_) (fun _ h => ?_)
  · refine V_pb C hn [(.aload_n 0, 1), (.iload_n 2, 1), (.aload_n 0, 1)] (pc' := 45) (ls' := [(0, .ref (a0 0)), (1, .int p1), (2, .int p2)]) (st' := [.ref (a0 0), .int p2, .ref (a0 0)]) (decB_ok (by decide +kernel)) rfl rfl ?_
    refine V_get C (v := .ref (a0 4)) (by decide +kernel) 0 6 fk_RX5_19 rfl rfl ?_
    refine V_pb C hn [(.iconst 2, 1)] (pc' := 49) (ls' := [(0, .ref (a0 0)), (1, .int p1), (2, .int p2)]) (st' := [.int (2 : Int32), .ref (a0 4), .int p2, .ref (a0 0)]) (decB_ok (by decide +kernel)) rfl rfl ?_
    refine V_iald C (f := (m_ways S0)) (by decide +kernel) 4 rfl h (fun h => ?_)
    obtain ⟨q3, h4, h⟩ := bnd h
    refine V_callV0 C (As := [.int p2, .int ((m_ways S0) (ix (2 : Int32)))]) (rest := []) (by decide +kernel) ok_yX5_isLit mk_RX5_201 (cfX5_isLit (l := E.l) (G := E.G) a0 h4) (q0 := 0) rfl rfl rfl rfl rfl rfl (Nat.le_of_ble_eq_true rfl) (Nat.le_of_ble_eq_true rfl) (Nat.le_of_ble_eq_true rfl) ?_
    show V E _ (wdM E.G a0 S0) 53 [(0, .ref (a0 0)), (1, .int p1), (2, .int p2)] [.int q3]
    refine V_if_eq C (off := 7) (tgt := 60) (by decide +kernel) (by decide) h (fun _ h => ?_) (fun _ h => ?_)
    · refine V_pb C hn [(.aload_n 0, 1), (.iload_n 2, 1)] (pc' := 62) (ls' := [(0, .ref (a0 0)), (1, .int p1), (2, .int p2)]) (st' := [.int p2, .ref (a0 0)]) (decB_ok (by decide +kernel)) rfl rfl ?_
      obtain ⟨q5, h6, h⟩ := bnd h
      refine V_callV0 C (As := [.int p2]) (rest := []) (by decide +kernel) ok_yX5_asMote mk_RX5_204 (cfX5_asMote (l := E.l) (G := E.G) a0 h6) (q0 := 0) rfl rfl rfl rfl rfl rfl (Nat.le_of_ble_eq_true rfl) (Nat.le_of_ble_eq_true rfl) (Nat.le_of_ble_eq_true rfl) ?_
      show V E _ (wdM E.G a0 S0) 65 [(0, .ref (a0 0)), (1, .int p1), (2, .int p2)] [.int q5]
      have h := Option.some.inj h
      subst h
      exact V_iret C (by decide +kernel) rfl
    · refine V_pb C hn [(.iload_n 2, 1)] (pc' := 57) (ls' := [(0, .ref (a0 0)), (1, .int p1), (2, .int p2)]) (st' := [.int p2]) (decB_ok (by decide +kernel)) rfl rfl ?_
      refine V_goto C (off := 8) (tgt := 65) (by decide +kernel) (by decide) ?_
      have h := Option.some.inj h
      subst h
      exact V_iret C (by decide +kernel) rfl
  refine Sw_at C (dflt := 89) (lo := 1) (hi := 5) (offs := #[35, 41, 65, 77, 83]) (len := 35) (off := 65) (v := (3 : Int32)) (tgt := 66) (by decide +kernel) (by decide) (by decide) (by decide) rfl (by decide) h (fun _ h => ?_) (fun _ h => ?_)
  · refine V_pb C hn [(.aload_n 0, 1), (.aload_n 0, 1), (.iload_n 2, 1)] (pc' := 69) (ls' := [(0, .ref (a0 0)), (1, .int p1), (2, .int p2)]) (st' := [.int p2, .ref (a0 0), .ref (a0 0)]) (decB_ok (by decide +kernel)) rfl rfl ?_
    obtain ⟨q7, h8, h⟩ := bnd h
    refine V_callV0 C (As := [.int p2]) (rest := [.ref (a0 0)]) (by decide +kernel) ok_yX5_asHeavy mk_RX5_207 (cfX5_asHeavy (l := E.l) (G := E.G) a0 h8) (q0 := 0) rfl rfl rfl rfl rfl rfl (Nat.le_of_ble_eq_true rfl) (Nat.le_of_ble_eq_true rfl) (Nat.le_of_ble_eq_true rfl) ?_
    show V E _ (wdM E.G a0 S0) 72 [(0, .ref (a0 0)), (1, .int p1), (2, .int p2)] [.int q7, .ref (a0 0)]
    refine V_pb C hn [(.iconst 1, 1), (.iconst 0, 1)] (pc' := 74) (ls' := [(0, .ref (a0 0)), (1, .int p1), (2, .int p2)]) (st' := [.int (0 : Int32), .int (1 : Int32), .int q7, .ref (a0 0)]) (decB_ok (by decide +kernel)) rfl rfl ?_
    obtain ⟨q9, h10, h⟩ := bnd h
    refine V_callV0 C (As := [.int q7, .int (1 : Int32), .int (0 : Int32)]) (rest := []) (by decide +kernel) ok_yX5_pushed mk_RX5_189 (cfX5_pushed (l := E.l) (G := E.G) a0 h10) (q0 := 0) rfl rfl rfl rfl rfl rfl (Nat.le_of_ble_eq_true rfl) (Nat.le_of_ble_eq_true rfl) (Nat.le_of_ble_eq_true rfl) ?_
    show V E _ (wdM E.G a0 S0) 77 [(0, .ref (a0 0)), (1, .int p1), (2, .int p2)] [.int q9]
    have h := Option.some.inj h
    subst h
    exact V_iret C (by decide +kernel) rfl
  refine Sw_at C (dflt := 89) (lo := 1) (hi := 5) (offs := #[35, 41, 65, 77, 83]) (len := 35) (off := 77) (v := (4 : Int32)) (tgt := 78) (by decide +kernel) (by decide) (by decide) (by decide) rfl (by decide) h (fun _ h => ?_) (fun _ h => ?_)
  · refine V_pb C hn [(.aload_n 0, 1), (.iload_n 2, 1)] (pc' := 80) (ls' := [(0, .ref (a0 0)), (1, .int p1), (2, .int p2)]) (st' := [.int p2, .ref (a0 0)]) (decB_ok (by decide +kernel)) rfl rfl ?_
    obtain ⟨q11, h12, h⟩ := bnd h
    refine V_callV0 C (As := [.int p2]) (rest := []) (by decide +kernel) ok_yX5_asSpark mk_RX5_210 (cfX5_asSpark (l := E.l) (G := E.G) a0 h12) (q0 := 0) rfl rfl rfl rfl rfl rfl (Nat.le_of_ble_eq_true rfl) (Nat.le_of_ble_eq_true rfl) (Nat.le_of_ble_eq_true rfl) ?_
    show V E _ (wdM E.G a0 S0) 83 [(0, .ref (a0 0)), (1, .int p1), (2, .int p2)] [.int q11]
    have h := Option.some.inj h
    subst h
    exact V_iret C (by decide +kernel) rfl
  refine Sw_at C (dflt := 89) (lo := 1) (hi := 5) (offs := #[35, 41, 65, 77, 83]) (len := 35) (off := 83) (v := (5 : Int32)) (tgt := 84) (by decide +kernel) (by decide) (by decide) (by decide) rfl (by decide) h (fun _ h => ?_) (fun _ h => ?_)
  · refine V_pb C hn [(.aload_n 0, 1), (.iload_n 2, 1)] (pc' := 86) (ls' := [(0, .ref (a0 0)), (1, .int p1), (2, .int p2)]) (st' := [.int p2, .ref (a0 0)]) (decB_ok (by decide +kernel)) rfl rfl ?_
    obtain ⟨q13, h14, h⟩ := bnd h
    refine V_callV0 C (As := [.int p2]) (rest := []) (by decide +kernel) ok_yX5_byDoors mk_RX5_192 (cfX5_byDoors (l := E.l) (G := E.G) a0 h14) (q0 := 0) rfl rfl rfl rfl rfl rfl (Nat.le_of_ble_eq_true rfl) (Nat.le_of_ble_eq_true rfl) (Nat.le_of_ble_eq_true rfl) ?_
    show V E _ (wdM E.G a0 S0) 89 [(0, .ref (a0 0)), (1, .int p1), (2, .int p2)] [.int q13]
    have h := Option.some.inj h
    subst h
    exact V_iret C (by decide +kernel) rfl
  refine Sw_end C (dflt := 89) (lo := 1) (hi := 5) (offs := #[35, 41, 65, 77, 83]) (len := 35) (tgt := 90) (by decide +kernel) (by decide) (by decide) ?_
  refine V_pb C hn [(.aload_n 0, 1), (.iload_n 2, 1)] (pc' := 92) (ls' := [(0, .ref (a0 0)), (1, .int p1), (2, .int p2)]) (st' := [.int p2, .ref (a0 0)]) (decB_ok (by decide +kernel)) rfl rfl ?_
  obtain ⟨q15, h16, h⟩ := bnd h
  refine V_callV0 C (As := [.int p2]) (rest := []) (by decide +kernel) ok_yX5_asMote mk_RX5_204 (cfX5_asMote (l := E.l) (G := E.G) a0 h16) (q0 := 0) rfl rfl rfl rfl rfl rfl (Nat.le_of_ble_eq_true rfl) (Nat.le_of_ble_eq_true rfl) (Nat.le_of_ble_eq_true rfl) ?_
  show V E _ (wdM E.G a0 S0) 95 [(0, .ref (a0 0)), (1, .int p1), (2, .int p2)] [.int q15]
  have h := Option.some.inj h
  subst h
  exact V_iret C (by decide +kernel) rfl
set_option maxRecDepth 100000 in
set_option maxHeartbeats 400000 in
theorem cfX5_says_j16 {E : VE} (C : Ctx E cX5_says RX5 7 (some .int)) (hn : E.nL = 4) {a0 : Nat → Nat} {p1 : Int32} {p2 : Int32} {S0 : MT} {out : Int32 × MT} (h : fX5_says_j16 p1 p2 S0 = some out) : V E (QR E (some (.int out.1)) (wdM E.G a0 out.2)) (wdM E.G a0 S0) 16 [(0, .ref (a0 0))] [] := by
  unfold fX5_says_j16 at h
  refine V_pb C hn [(.aload_n 0, 1), (.bipush (-2), 2)] (pc' := 19) (ls' := [(0, .ref (a0 0))]) (st' := [.int (cI (-2)), .ref (a0 0)]) (decB_ok (by decide +kernel)) rfl rfl ?_
  obtain ⟨q3, h4, h⟩ := bnd h
  refine V_callV0 C (As := [.int (cI (-2))]) (rest := []) (by decide +kernel) ok_yX5_no mk_RX5_77 (cfX5_no (l := E.l) (G := E.G) a0 h4) (q0 := 0) rfl rfl rfl rfl rfl rfl (Nat.le_of_ble_eq_true rfl) (Nat.le_of_ble_eq_true rfl) (Nat.le_of_ble_eq_true rfl) ?_
  show V E _ (wdM E.G a0 q3.2) 22 [(0, .ref (a0 0))] [.int q3.1]
  have h := Option.some.inj h
  subst h
  exact V_iret C (by decide +kernel) rfl
set_option maxRecDepth 100000 in
set_option maxHeartbeats 400000 in
theorem cfX5_says {l : Launch} {G : GG} (a0 : Nat → Nat) {p1 : Int32} {p2 : Int32} {S0 : MT} {out : Int32 × MT} (h : fX5_says p1 p2 S0 = some out) : Con l G 7 yX5_says cX5_says 4 (some .int) [.ref (a0 0), .int p1, .int p2] (wdM G a0 S0) (some (.int out.1)) (wdM G a0 out.2) := by
  refine Con_of (by decide +kernel) (Nat.le_of_ble_eq_true rfl) (fun E hl hG hn C => ?_)
  subst hl
  subst hG
  have C : Ctx E cX5_says RX5 7 (some .int) := C
  show V E _ _ 0 [(0, .ref (a0 0)), (1, .int p1), (2, .int p2)] []
  unfold fX5_says at h
  refine V_pb C hn [(.iload_n 1, 1)] (pc' := 1) (ls' := [(0, .ref (a0 0)), (1, .int p1), (2, .int p2)]) (st' := [.int p1]) (decB_ok (by decide +kernel)) rfl rfl ?_
  obtain ⟨q1, h2, h⟩ := bnd h
  refine V_callSp C (As := [.int p1]) (rest := []) (by decide +kernel) ok_yX5_isShelf mk_RX5_73 (cfX5_isShelf (l := E.l) (G := E.G) h2) [] rfl rfl rfl rfl (Nat.le_of_ble_eq_true rfl) (Nat.le_of_ble_eq_true rfl) (Nat.le_of_ble_eq_true rfl) ?_
  show V E _ (wdM E.G a0 S0) 4 [(0, .ref (a0 0)), (1, .int p1), (2, .int p2)] [.int q1]
  refine V_if_eq C (off := 12) (tgt := 16) (by decide +kernel) (by decide) h (fun _ h => ?_) (fun _ h => ?_)
  · refine V_sub (ls' := [(0, .ref (a0 0))]) rfl ?_
    exact cfX5_says_j16 C hn h
  · refine V_pb C hn [(.iload_n 2, 1), (.iconst 0, 1), (.iconst 5, 1)] (pc' := 10) (ls' := [(0, .ref (a0 0)), (1, .int p1), (2, .int p2)]) (st' := [.int (5 : Int32), .int (0 : Int32), .int p2]) (decB_ok (by decide +kernel)) rfl rfl ?_
    obtain ⟨q5, h6, h⟩ := bnd h
    refine V_callSp C (As := [.int p2, .int (0 : Int32), .int (5 : Int32)]) (rest := []) (by decide +kernel) ok_yX5_within mk_RX5_63 (cfX5_within (l := E.l) (G := E.G) h6) [] rfl rfl rfl rfl (Nat.le_of_ble_eq_true rfl) (Nat.le_of_ble_eq_true rfl) (Nat.le_of_ble_eq_true rfl) ?_
    show V E _ (wdM E.G a0 S0) 13 [(0, .ref (a0 0)), (1, .int p1), (2, .int p2)] [.int q5]
    refine V_if_ne C (off := 10) (tgt := 23) (by decide +kernel) (by decide) h (fun _ h => ?_) (fun _ h => ?_)
    · refine V_sub (ls' := [(0, .ref (a0 0))]) rfl ?_
      exact cfX5_says_j16 C hn h
    · refine V_pb C hn [(.aload_n 0, 1), (.iload_n 1, 1)] (pc' := 25) (ls' := [(0, .ref (a0 0)), (1, .int p1), (2, .int p2)]) (st' := [.int p1, .ref (a0 0)]) (decB_ok (by decide +kernel)) rfl rfl ?_
      obtain ⟨q7, h8, h⟩ := bnd h
      refine V_callV0 C (As := [.int p1]) (rest := []) (by decide +kernel) ok_yX5_isRow mk_RX5_81 (cfX5_isRow (l := E.l) (G := E.G) a0 h8) (q0 := 0) rfl rfl rfl rfl rfl rfl (Nat.le_of_ble_eq_true rfl) (Nat.le_of_ble_eq_true rfl) (Nat.le_of_ble_eq_true rfl) ?_
      show V E _ (wdM E.G a0 S0) 28 [(0, .ref (a0 0)), (1, .int p1), (2, .int p2)] [.int q7]
      refine V_if_eq C (off := 10) (tgt := 38) (by decide +kernel) (by decide) h (fun _ h => ?_) (fun _ h => ?_)
      · refine V_pb C hn [(.aload_n 0, 1)] (pc' := 39) (ls' := [(0, .ref (a0 0)), (1, .int p1), (2, .int p2)]) (st' := [.ref (a0 0)]) (decB_ok (by decide +kernel)) rfl rfl ?_
        refine V_get C (v := .ref (a0 6)) (by decide +kernel) 0 14 fk_RX5_25 rfl rfl ?_
        refine V_pb C hn [(.iload_n 1, 1)] (pc' := 43) (ls' := [(0, .ref (a0 0)), (1, .int p1), (2, .int p2)]) (st' := [.int p1, .ref (a0 6)]) (decB_ok (by decide +kernel)) rfl rfl ?_
        refine V_iald C (f := (m_holding S0)) (by decide +kernel) 6 rfl h (fun h => ?_)
        refine V_if_ge C (off := 10) (tgt := 54) (by decide +kernel) (by decide) h (fun _ h => ?_) (fun _ h => ?_)
        · refine V_pb C hn [(.aload_n 0, 1)] (pc' := 55) (ls' := [(0, .ref (a0 0)), (1, .int p1), (2, .int p2)]) (st' := [.ref (a0 0)]) (decB_ok (by decide +kernel)) rfl rfl ?_
          refine V_get C (v := .ref (a0 6)) (by decide +kernel) 0 14 fk_RX5_25 rfl rfl ?_
          refine V_pb C hn [(.iload_n 1, 1)] (pc' := 59) (ls' := [(0, .ref (a0 0)), (1, .int p1), (2, .int p2)]) (st' := [.int p1, .ref (a0 6)]) (decB_ok (by decide +kernel)) rfl rfl ?_
          refine V_iald C (f := (m_holding S0)) (by decide +kernel) 6 rfl h (fun h => ?_)
          refine V_pb C hn [(.bipush 10, 2), (.isub, 1), (.istore_n 3, 1), (.aload_n 0, 1)] (pc' := 65) (ls' := [(0, .ref (a0 0)), (1, .int p1), (2, .int p2), (3, .int (((m_holding S0) (ix p1)) - (10 : Int32)))]) (st' := [.ref (a0 0)]) (decB_ok (by decide +kernel)) rfl rfl ?_
          refine V_get C (v := .ref (a0 1)) (by decide +kernel) 0 2 fk_RX5_7 rfl rfl ?_
          refine V_pb C hn [(.iload_n 3, 1)] (pc' := 69) (ls' := [(0, .ref (a0 0)), (1, .int p1), (2, .int p2), (3, .int (((m_holding S0) (ix p1)) - (10 : Int32)))]) (st' := [.int (((m_holding S0) (ix p1)) - (10 : Int32)), .ref (a0 1)]) (decB_ok (by decide +kernel)) rfl rfl ?_
          refine V_iald C (f := (m_kind S0)) (by decide +kernel) 1 rfl h (fun h => ?_)
          refine V_pb C hn [(.iload_n 2, 1)] (pc' := 71) (ls' := [(0, .ref (a0 0)), (1, .int p1), (2, .int p2), (3, .int (((m_holding S0) (ix p1)) - (10 : Int32)))]) (st' := [.int p2, .int ((m_kind S0) (ix (((m_holding S0) (ix p1)) - (10 : Int32))))]) (decB_ok (by decide +kernel)) rfl rfl ?_
          obtain ⟨q9, h10, h⟩ := bnd h
          refine V_callSp C (As := [.int ((m_kind S0) (ix (((m_holding S0) (ix p1)) - (10 : Int32)))), .int p2]) (rest := []) (by decide +kernel) ok_yX5_isUnder mk_RX5_94 (cfX5_isUnder (l := E.l) (G := E.G) h10) [] rfl rfl rfl rfl (Nat.le_of_ble_eq_true rfl) (Nat.le_of_ble_eq_true rfl) (Nat.le_of_ble_eq_true rfl) ?_
          show V E _ (wdM E.G a0 S0) 74 [(0, .ref (a0 0)), (1, .int p1), (2, .int p2), (3, .int (((m_holding S0) (ix p1)) - (10 : Int32)))] [.int q9]
          refine V_if_ne C (off := 10) (tgt := 84) (by decide +kernel) (by decide) h (fun _ h => ?_) (fun _ h => ?_)
          · refine V_pb C hn [(.aload_n 0, 1), (.bipush (-3), 2)] (pc' := 80) (ls' := [(0, .ref (a0 0)), (1, .int p1), (2, .int p2), (3, .int (((m_holding S0) (ix p1)) - (10 : Int32)))]) (st' := [.int (cI (-3)), .ref (a0 0)]) (decB_ok (by decide +kernel)) rfl rfl ?_
            obtain ⟨q11, h12, h⟩ := bnd h
            refine V_callV0 C (As := [.int (cI (-3))]) (rest := []) (by decide +kernel) ok_yX5_no mk_RX5_77 (cfX5_no (l := E.l) (G := E.G) a0 h12) (q0 := 0) rfl rfl rfl rfl rfl rfl (Nat.le_of_ble_eq_true rfl) (Nat.le_of_ble_eq_true rfl) (Nat.le_of_ble_eq_true rfl) ?_
            show V E _ (wdM E.G a0 q11.2) 83 [(0, .ref (a0 0)), (1, .int p1), (2, .int p2), (3, .int (((m_holding S0) (ix p1)) - (10 : Int32)))] [.int q11.1]
            have h := Option.some.inj h
            subst h
            exact V_iret C (by decide +kernel) rfl
          · refine V_pb C hn [(.iload_n 2, 1)] (pc' := 85) (ls' := [(0, .ref (a0 0)), (1, .int p1), (2, .int p2), (3, .int (((m_holding S0) (ix p1)) - (10 : Int32)))]) (st' := [.int p2]) (decB_ok (by decide +kernel)) rfl rfl ?_
            refine V_if_ne C (off := 12) (tgt := 97) (by decide +kernel) (by decide) h (fun _ h => ?_) (fun _ h => ?_)
            · refine V_pb C hn [(.aload_n 0, 1)] (pc' := 89) (ls' := [(0, .ref (a0 0)), (1, .int p1), (2, .int p2), (3, .int (((m_holding S0) (ix p1)) - (10 : Int32)))]) (st' := [.ref (a0 0)]) (decB_ok (by decide +kernel)) rfl rfl ?_
              refine V_get C (v := .ref (a0 2)) (by decide +kernel) 0 3 fk_RX5_13 rfl rfl ?_
              refine V_pb C hn [(.iload_n 3, 1)] (pc' := 93) (ls' := [(0, .ref (a0 0)), (1, .int p1), (2, .int p2), (3, .int (((m_holding S0) (ix p1)) - (10 : Int32)))]) (st' := [.int (((m_holding S0) (ix p1)) - (10 : Int32)), .ref (a0 2)]) (decB_ok (by decide +kernel)) rfl rfl ?_
              refine V_iald C (f := (m_own S0)) (by decide +kernel) 2 rfl h (fun h => ?_)
              refine V_goto C (off := 19) (tgt := 113) (by decide +kernel) (by decide) ?_
              have h := Option.some.inj h
              subst h
              exact V_iret C (by decide +kernel) rfl
            · refine V_pb C hn [(.aload_n 0, 1), (.aload_n 0, 1)] (pc' := 99) (ls' := [(0, .ref (a0 0)), (1, .int p1), (2, .int p2), (3, .int (((m_holding S0) (ix p1)) - (10 : Int32)))]) (st' := [.ref (a0 0), .ref (a0 0)]) (decB_ok (by decide +kernel)) rfl rfl ?_
              refine V_get C (v := .ref (a0 1)) (by decide +kernel) 0 2 fk_RX5_7 rfl rfl ?_
              refine V_pb C hn [(.iload_n 3, 1)] (pc' := 103) (ls' := [(0, .ref (a0 0)), (1, .int p1), (2, .int p2), (3, .int (((m_holding S0) (ix p1)) - (10 : Int32)))]) (st' := [.int (((m_holding S0) (ix p1)) - (10 : Int32)), .ref (a0 1), .ref (a0 0)]) (decB_ok (by decide +kernel)) rfl rfl ?_
              refine V_iald C (f := (m_kind S0)) (by decide +kernel) 1 rfl h (fun h => ?_)
              refine V_pb C hn [(.aload_n 0, 1)] (pc' := 105) (ls' := [(0, .ref (a0 0)), (1, .int p1), (2, .int p2), (3, .int (((m_holding S0) (ix p1)) - (10 : Int32)))]) (st' := [.ref (a0 0), .int ((m_kind S0) (ix (((m_holding S0) (ix p1)) - (10 : Int32)))), .ref (a0 0)]) (decB_ok (by decide +kernel)) rfl rfl ?_
              refine V_get C (v := .ref (a0 3)) (by decide +kernel) 0 4 fk_RX5_16 rfl rfl ?_
              refine V_pb C hn [(.iload_n 3, 1)] (pc' := 109) (ls' := [(0, .ref (a0 0)), (1, .int p1), (2, .int p2), (3, .int (((m_holding S0) (ix p1)) - (10 : Int32)))]) (st' := [.int (((m_holding S0) (ix p1)) - (10 : Int32)), .ref (a0 3), .int ((m_kind S0) (ix (((m_holding S0) (ix p1)) - (10 : Int32)))), .ref (a0 0)]) (decB_ok (by decide +kernel)) rfl rfl ?_
              refine V_iald C (f := (m_cell S0)) (by decide +kernel) 3 rfl h (fun h => ?_)
              obtain ⟨q13, h14, h⟩ := bnd h
              refine V_callV0 C (As := [.int ((m_kind S0) (ix (((m_holding S0) (ix p1)) - (10 : Int32)))), .int ((m_cell S0) (ix (((m_holding S0) (ix p1)) - (10 : Int32))))]) (rest := []) (by decide +kernel) ok_yX5_goes mk_RX5_98 (cfX5_goes (l := E.l) (G := E.G) a0 h14) (q0 := 0) rfl rfl rfl rfl rfl rfl (Nat.le_of_ble_eq_true rfl) (Nat.le_of_ble_eq_true rfl) (Nat.le_of_ble_eq_true rfl) ?_
              show V E _ (wdM E.G a0 S0) 113 [(0, .ref (a0 0)), (1, .int p1), (2, .int p2), (3, .int (((m_holding S0) (ix p1)) - (10 : Int32)))] [.int q13]
              have h := Option.some.inj h
              subst h
              exact V_iret C (by decide +kernel) rfl
        · refine V_pb C hn [(.aload_n 0, 1), (.bipush (-4), 2)] (pc' := 50) (ls' := [(0, .ref (a0 0)), (1, .int p1), (2, .int p2)]) (st' := [.int (cI (-4)), .ref (a0 0)]) (decB_ok (by decide +kernel)) rfl rfl ?_
          obtain ⟨q15, h16, h⟩ := bnd h
          refine V_callV0 C (As := [.int (cI (-4))]) (rest := []) (by decide +kernel) ok_yX5_no mk_RX5_77 (cfX5_no (l := E.l) (G := E.G) a0 h16) (q0 := 0) rfl rfl rfl rfl rfl rfl (Nat.le_of_ble_eq_true rfl) (Nat.le_of_ble_eq_true rfl) (Nat.le_of_ble_eq_true rfl) ?_
          show V E _ (wdM E.G a0 q15.2) 53 [(0, .ref (a0 0)), (1, .int p1), (2, .int p2)] [.int q15.1]
          have h := Option.some.inj h
          subst h
          exact V_iret C (by decide +kernel) rfl
      · refine V_pb C hn [(.aload_n 0, 1), (.bipush (-3), 2)] (pc' := 34) (ls' := [(0, .ref (a0 0)), (1, .int p1), (2, .int p2)]) (st' := [.int (cI (-3)), .ref (a0 0)]) (decB_ok (by decide +kernel)) rfl rfl ?_
        obtain ⟨q17, h18, h⟩ := bnd h
        refine V_callV0 C (As := [.int (cI (-3))]) (rest := []) (by decide +kernel) ok_yX5_no mk_RX5_77 (cfX5_no (l := E.l) (G := E.G) a0 h18) (q0 := 0) rfl rfl rfl rfl rfl rfl (Nat.le_of_ble_eq_true rfl) (Nat.le_of_ble_eq_true rfl) (Nat.le_of_ble_eq_true rfl) ?_
        show V E _ (wdM E.G a0 q17.2) 37 [(0, .ref (a0 0)), (1, .int p1), (2, .int p2)] [.int q17.1]
        have h := Option.some.inj h
        subst h
        exact V_iret C (by decide +kernel) rfl
set_option maxRecDepth 100000 in
set_option maxHeartbeats 400000 in
theorem cfX5_side_j18 {E : VE} (C : Ctx E cX5_side RX5 1 (some .int)) (hn : E.nL = 3) {a0 : Nat → Nat} {p1 : Int32} {S0 : MT} {out : Int32 × MT} (h : fX5_side_j18 p1 S0 = some out) : V E (QR E (some (.int out.1)) (wdM E.G a0 out.2)) (wdM E.G a0 S0) 18 [(0, .ref (a0 0))] [] := by
  unfold fX5_side_j18 at h
  refine V_pb C hn [(.aload_n 0, 1), (.bipush (-2), 2)] (pc' := 21) (ls' := [(0, .ref (a0 0))]) (st' := [.int (cI (-2)), .ref (a0 0)]) (decB_ok (by decide +kernel)) rfl rfl ?_
  obtain ⟨q3, h4, h⟩ := bnd h
  refine V_callV0 C (As := [.int (cI (-2))]) (rest := []) (by decide +kernel) ok_yX5_no mk_RX5_77 (cfX5_no (l := E.l) (G := E.G) a0 h4) (q0 := 0) rfl rfl rfl rfl rfl rfl (Nat.le_of_ble_eq_true rfl) (Nat.le_of_ble_eq_true rfl) (Nat.le_of_ble_eq_true rfl) ?_
  show V E _ (wdM E.G a0 q3.2) 24 [(0, .ref (a0 0))] [.int q3.1]
  have h := Option.some.inj h
  subst h
  exact V_iret C (by decide +kernel) rfl
set_option maxRecDepth 100000 in
set_option maxHeartbeats 400000 in
theorem cfX5_side {l : Launch} {G : GG} (a0 : Nat → Nat) {p1 : Int32} {S0 : MT} {out : Int32 × MT} (h : fX5_side p1 S0 = some out) : Con l G 1 yX5_side cX5_side 3 (some .int) [.ref (a0 0), .int p1] (wdM G a0 S0) (some (.int out.1)) (wdM G a0 out.2) := by
  refine Con_of (by decide +kernel) (Nat.le_of_ble_eq_true rfl) (fun E hl hG hn C => ?_)
  subst hl
  subst hG
  have C : Ctx E cX5_side RX5 1 (some .int) := C
  show V E _ _ 0 [(0, .ref (a0 0)), (1, .int p1)] []
  unfold fX5_side at h
  refine V_pb C hn [(.iload_n 1, 1), (.iconst 3, 1), (.bipush 7, 2)] (pc' := 4) (ls' := [(0, .ref (a0 0)), (1, .int p1)]) (st' := [.int (7 : Int32), .int (3 : Int32), .int p1]) (decB_ok (by decide +kernel)) rfl rfl ?_
  obtain ⟨q1, h2, h⟩ := bnd h
  refine V_callSp C (As := [.int p1, .int (3 : Int32), .int (7 : Int32)]) (rest := []) (by decide +kernel) ok_yX5_within mk_RX5_63 (cfX5_within (l := E.l) (G := E.G) h2) [] rfl rfl rfl rfl (Nat.le_of_ble_eq_true rfl) (Nat.le_of_ble_eq_true rfl) (Nat.le_of_ble_eq_true rfl) ?_
  show V E _ (wdM E.G a0 S0) 7 [(0, .ref (a0 0)), (1, .int p1)] [.int q1]
  refine V_if_eq C (off := 11) (tgt := 18) (by decide +kernel) (by decide) h (fun _ h => ?_) (fun _ h => ?_)
  · refine V_sub (ls' := [(0, .ref (a0 0))]) rfl ?_
    exact cfX5_side_j18 C hn h
  · refine V_pb C hn [(.iload_n 1, 1), (.aload_n 0, 1)] (pc' := 12) (ls' := [(0, .ref (a0 0)), (1, .int p1)]) (st' := [.ref (a0 0), .int p1]) (decB_ok (by decide +kernel)) rfl rfl ?_
    refine V_get C (v := .int (m_n S0)) (by decide +kernel) 0 0 fk_RX5_53 rfl rfl ?_
    refine V_ic_ge C (off := 10) (tgt := 25) (by decide +kernel) (by decide) h (fun _ h => ?_) (fun _ h => ?_)
    · refine V_pb C hn [(.aload_n 0, 1)] (pc' := 26) (ls' := [(0, .ref (a0 0)), (1, .int p1)]) (st' := [.ref (a0 0)]) (decB_ok (by decide +kernel)) rfl rfl ?_
      refine V_get C (v := .int (m_n S0)) (by decide +kernel) 0 0 fk_RX5_53 rfl rfl ?_
      refine V_pb C hn [(.istore_n 2, 1), (.aload_n 0, 1), (.iload_n 1, 1)] (pc' := 32) (ls' := [(0, .ref (a0 0)), (1, .int p1), (2, .int (m_n S0))]) (st' := [.int p1, .ref (a0 0)]) (decB_ok (by decide +kernel)) rfl rfl ?_
      refine V_put C (v := .int p1) (ws' := wdM E.G a0 (ms_n S0 p1)) (by decide +kernel) 0 0 pk_RX5_53 rfl rfl rfl (Nat.le_of_ble_eq_true rfl) rfl ?_
      refine V_pb C hn [(.iload_n 2, 1)] (pc' := 36) (ls' := [(0, .ref (a0 0)), (1, .int p1), (2, .int (m_n S0))]) (st' := [.int (m_n S0)]) (decB_ok (by decide +kernel)) rfl rfl ?_
      have h := Option.some.inj h
      subst h
      exact V_iret C (by decide +kernel) rfl
    · refine V_sub (ls' := [(0, .ref (a0 0))]) rfl ?_
      exact cfX5_side_j18 C hn h
set_option maxRecDepth 100000 in
set_option maxHeartbeats 400000 in
theorem cfX5_isCell {l : Launch} {G : GG} (a0 : Nat → Nat) {p1 : Int32} {S0 : MT} {out : Int32} (h : fX5_isCell p1 S0 = some out) : Con l G 0 yX5_isCell cX5_isCell 2 (some .boolean) [.ref (a0 0), .int p1] (wdM G a0 S0) (some (.int out)) (wdM G a0 S0) := by
  refine Con_of (by decide +kernel) (Nat.le_of_ble_eq_true rfl) (fun E hl hG hn C => ?_)
  subst hl
  subst hG
  have C : Ctx E cX5_isCell RX5 0 (some .boolean) := C
  show V E _ _ 0 [(0, .ref (a0 0)), (1, .int p1)] []
  unfold fX5_isCell at h
  refine V_pb C hn [(.iload_n 1, 1)] (pc' := 1) (ls' := [(0, .ref (a0 0)), (1, .int p1)]) (st' := [.int p1]) (decB_ok (by decide +kernel)) rfl rfl ?_
  refine V_if_lt C (off := 29) (tgt := 30) (by decide +kernel) (by decide) h (fun _ h => ?_) (fun _ h => ?_)
  · refine V_pb C hn [(.iconst 0, 1)] (pc' := 31) (ls' := [(0, .ref (a0 0)), (1, .int p1)]) (st' := [.int (0 : Int32)]) (decB_ok (by decide +kernel)) rfl rfl ?_
    have h := Option.some.inj h
    subst h
    exact V_iret C (v := (0 : Int32)) (by decide +kernel) nb0
  · refine V_pb C hn [(.iload_n 1, 1), (.bipush 10, 2)] (pc' := 7) (ls' := [(0, .ref (a0 0)), (1, .int p1)]) (st' := [.int (10 : Int32), .int p1]) (decB_ok (by decide +kernel)) rfl rfl ?_
    refine V_idiv C (by decide +kernel) (by decide) ?_
    refine V_pb C hn [(.aload_n 0, 1)] (pc' := 9) (ls' := [(0, .ref (a0 0)), (1, .int p1)]) (st' := [.ref (a0 0), .int (p1 / (10 : Int32))]) (decB_ok (by decide +kernel)) rfl rfl ?_
    refine V_get C (v := .int (m_n S0)) (by decide +kernel) 0 0 fk_RX5_53 rfl rfl ?_
    refine V_ic_ge C (off := 18) (tgt := 30) (by decide +kernel) (by decide) h (fun _ h => ?_) (fun _ h => ?_)
    · refine V_pb C hn [(.iconst 0, 1)] (pc' := 31) (ls' := [(0, .ref (a0 0)), (1, .int p1)]) (st' := [.int (0 : Int32)]) (decB_ok (by decide +kernel)) rfl rfl ?_
      have h := Option.some.inj h
      subst h
      exact V_iret C (v := (0 : Int32)) (by decide +kernel) nb0
    · refine V_pb C hn [(.iload_n 1, 1), (.bipush 10, 2)] (pc' := 18) (ls' := [(0, .ref (a0 0)), (1, .int p1)]) (st' := [.int (10 : Int32), .int p1]) (decB_ok (by decide +kernel)) rfl rfl ?_
      refine V_irem C (by decide +kernel) (by decide) ?_
      refine V_pb C hn [(.aload_n 0, 1)] (pc' := 20) (ls' := [(0, .ref (a0 0)), (1, .int p1)]) (st' := [.ref (a0 0), .int (irm p1 (10 : Int32))]) (decB_ok (by decide +kernel)) rfl rfl ?_
      refine V_get C (v := .int (m_n S0)) (by decide +kernel) 0 0 fk_RX5_53 rfl rfl ?_
      refine V_ic_ge C (off := 7) (tgt := 30) (by decide +kernel) (by decide) h (fun _ h => ?_) (fun _ h => ?_)
      · refine V_pb C hn [(.iconst 0, 1)] (pc' := 31) (ls' := [(0, .ref (a0 0)), (1, .int p1)]) (st' := [.int (0 : Int32)]) (decB_ok (by decide +kernel)) rfl rfl ?_
        have h := Option.some.inj h
        subst h
        exact V_iret C (v := (0 : Int32)) (by decide +kernel) nb0
      · refine V_pb C hn [(.iconst 1, 1)] (pc' := 27) (ls' := [(0, .ref (a0 0)), (1, .int p1)]) (st' := [.int (1 : Int32)]) (decB_ok (by decide +kernel)) rfl rfl ?_
        refine V_goto C (off := 4) (tgt := 31) (by decide +kernel) (by decide) ?_
        have h := Option.some.inj h
        subst h
        exact V_iret C (v := (1 : Int32)) (by decide +kernel) nb1
set_option maxRecDepth 100000 in
set_option maxHeartbeats 400000 in
theorem cfX5_newMote {l : Launch} {G : GG} (a0 : Nat → Nat) {p1 : Int32} {p2 : Int32} {p3 : Int32} {S0 : MT} {out : Int32 × MT} (h : fX5_newMote p1 p2 p3 S0 = some out) : Con l G 0 yX5_newMote cX5_newMote 4 (some .int) [.ref (a0 0), .int p1, .int p2, .int p3] (wdM G a0 S0) (some (.int out.1)) (wdM G a0 out.2) := by
  refine Con_of (by decide +kernel) (Nat.le_of_ble_eq_true rfl) (fun E hl hG hn C => ?_)
  subst hl
  subst hG
  have C : Ctx E cX5_newMote RX5 0 (some .int) := C
  show V E _ _ 0 [(0, .ref (a0 0)), (1, .int p1), (2, .int p2), (3, .int p3)] []
  unfold fX5_newMote at h
  refine V_pb C hn [(.aload_n 0, 1)] (pc' := 1) (ls' := [(0, .ref (a0 0)), (1, .int p1), (2, .int p2), (3, .int p3)]) (st' := [.ref (a0 0)]) (decB_ok (by decide +kernel)) rfl rfl ?_
  refine V_get C (v := .ref (a0 1)) (by decide +kernel) 0 2 fk_RX5_7 rfl rfl ?_
  refine V_pb C hn [(.aload_n 0, 1)] (pc' := 5) (ls' := [(0, .ref (a0 0)), (1, .int p1), (2, .int p2), (3, .int p3)]) (st' := [.ref (a0 0), .ref (a0 1)]) (decB_ok (by decide +kernel)) rfl rfl ?_
  refine V_get C (v := .int (m_motes S0)) (by decide +kernel) 0 1 fk_RX5_60 rfl rfl ?_
  refine V_pb C hn [(.iload_n 1, 1)] (pc' := 9) (ls' := [(0, .ref (a0 0)), (1, .int p1), (2, .int p2), (3, .int p3)]) (st' := [.int p1, .int (m_motes S0), .ref (a0 1)]) (decB_ok (by decide +kernel)) rfl rfl ?_
  obtain ⟨hb9, h⟩ := gd_some h
  obtain ⟨w1, e2, h⟩ := bnd h
  refine V_iast C (f := (m_kind S0)) (ws' := wdM E.G a0 w1) (by decide +kernel) 1 rfl (o := some ()) (out := ()) (by rw [hb9]; rfl) (by cases e2; rfl) (fun _ => ?_)
  refine V_pb C hn [(.aload_n 0, 1)] (pc' := 11) (ls' := [(0, .ref (a0 0)), (1, .int p1), (2, .int p2), (3, .int p3)]) (st' := [.ref (a0 0)]) (decB_ok (by decide +kernel)) rfl rfl ?_
  refine V_get C (v := .ref (a0 2)) (by decide +kernel) 0 3 fk_RX5_13 rfl rfl ?_
  refine V_pb C hn [(.aload_n 0, 1)] (pc' := 15) (ls' := [(0, .ref (a0 0)), (1, .int p1), (2, .int p2), (3, .int p3)]) (st' := [.ref (a0 0), .ref (a0 2)]) (decB_ok (by decide +kernel)) rfl rfl ?_
  refine V_get C (v := .int (m_motes w1)) (by decide +kernel) 0 1 fk_RX5_60 rfl rfl ?_
  refine V_pb C hn [(.iload_n 2, 1)] (pc' := 19) (ls' := [(0, .ref (a0 0)), (1, .int p1), (2, .int p2), (3, .int p3)]) (st' := [.int p2, .int (m_motes w1), .ref (a0 2)]) (decB_ok (by decide +kernel)) rfl rfl ?_
  obtain ⟨hb9, h⟩ := gd_some h
  obtain ⟨w3, e4, h⟩ := bnd h
  refine V_iast C (f := (m_own w1)) (ws' := wdM E.G a0 w3) (by decide +kernel) 2 rfl (o := some ()) (out := ()) (by rw [hb9]; rfl) (by cases e4; rfl) (fun _ => ?_)
  refine V_pb C hn [(.aload_n 0, 1)] (pc' := 21) (ls' := [(0, .ref (a0 0)), (1, .int p1), (2, .int p2), (3, .int p3)]) (st' := [.ref (a0 0)]) (decB_ok (by decide +kernel)) rfl rfl ?_
  refine V_get C (v := .ref (a0 3)) (by decide +kernel) 0 4 fk_RX5_16 rfl rfl ?_
  refine V_pb C hn [(.aload_n 0, 1)] (pc' := 25) (ls' := [(0, .ref (a0 0)), (1, .int p1), (2, .int p2), (3, .int p3)]) (st' := [.ref (a0 0), .ref (a0 3)]) (decB_ok (by decide +kernel)) rfl rfl ?_
  refine V_get C (v := .int (m_motes w3)) (by decide +kernel) 0 1 fk_RX5_60 rfl rfl ?_
  refine V_pb C hn [(.iload_n 3, 1)] (pc' := 29) (ls' := [(0, .ref (a0 0)), (1, .int p1), (2, .int p2), (3, .int p3)]) (st' := [.int p3, .int (m_motes w3), .ref (a0 3)]) (decB_ok (by decide +kernel)) rfl rfl ?_
  obtain ⟨hb9, h⟩ := gd_some h
  obtain ⟨w5, e6, h⟩ := bnd h
  refine V_iast C (f := (m_cell w3)) (ws' := wdM E.G a0 w5) (by decide +kernel) 3 rfl (o := some ()) (out := ()) (by rw [hb9]; rfl) (by cases e6; rfl) (fun _ => ?_)
  refine V_pb C hn [(.aload_n 0, 1), (.dup, 1)] (pc' := 32) (ls' := [(0, .ref (a0 0)), (1, .int p1), (2, .int p2), (3, .int p3)]) (st' := [.ref (a0 0), .ref (a0 0)]) (decB_ok (by decide +kernel)) rfl rfl ?_
  refine V_get C (v := .int (m_motes w5)) (by decide +kernel) 0 1 fk_RX5_60 rfl rfl ?_
  refine V_pb C hn [(.dup_x1, 1), (.iconst 1, 1), (.iadd, 1)] (pc' := 38) (ls' := [(0, .ref (a0 0)), (1, .int p1), (2, .int p2), (3, .int p3)]) (st' := [.int ((m_motes w5) + (1 : Int32)), .ref (a0 0), .int (m_motes w5)]) (decB_ok (by decide +kernel)) rfl rfl ?_
  obtain ⟨x7, e8, h⟩ := bnd h
  refine V_topi e8 ?_
  obtain ⟨w9, e10, h⟩ := bnd h
  refine V_put C (v := .int x7) (ws' := wdM E.G a0 w9) (by decide +kernel) 0 1 pk_RX5_60 rfl rfl rfl (Nat.le_of_ble_eq_true rfl) (by cases e10; rfl) ?_
  have h := Option.some.inj h
  subst h
  exact V_iret C (by decide +kernel) rfl
set_option maxRecDepth 100000 in
set_option maxHeartbeats 400000 in
theorem cfX5_mote_j27 {E : VE} (C : Ctx E cX5_mote RX5 1 (some .int)) (hn : E.nL = 4) {a0 : Nat → Nat} {p1 : Int32} {p2 : Int32} {p3 : Int32} {S0 : MT} {out : Int32 × MT} (h : fX5_mote_j27 p1 p2 p3 S0 = some out) : V E (QR E (some (.int out.1)) (wdM E.G a0 out.2)) (wdM E.G a0 S0) 27 [(0, .ref (a0 0))] [] := by
  unfold fX5_mote_j27 at h
  refine V_pb C hn [(.aload_n 0, 1), (.bipush (-2), 2)] (pc' := 30) (ls' := [(0, .ref (a0 0))]) (st' := [.int (cI (-2)), .ref (a0 0)]) (decB_ok (by decide +kernel)) rfl rfl ?_
  obtain ⟨q3, h4, h⟩ := bnd h
  refine V_callV0 C (As := [.int (cI (-2))]) (rest := []) (by decide +kernel) ok_yX5_no mk_RX5_77 (cfX5_no (l := E.l) (G := E.G) a0 h4) (q0 := 0) rfl rfl rfl rfl rfl rfl (Nat.le_of_ble_eq_true rfl) (Nat.le_of_ble_eq_true rfl) (Nat.le_of_ble_eq_true rfl) ?_
  show V E _ (wdM E.G a0 q3.2) 33 [(0, .ref (a0 0))] [.int q3.1]
  have h := Option.some.inj h
  subst h
  exact V_iret C (by decide +kernel) rfl
set_option maxRecDepth 100000 in
set_option maxHeartbeats 400000 in
theorem cfX5_mote {l : Launch} {G : GG} (a0 : Nat → Nat) {p1 : Int32} {p2 : Int32} {p3 : Int32} {S0 : MT} {out : Int32 × MT} (h : fX5_mote p1 p2 p3 S0 = some out) : Con l G 1 yX5_mote cX5_mote 4 (some .int) [.ref (a0 0), .int p1, .int p2, .int p3] (wdM G a0 S0) (some (.int out.1)) (wdM G a0 out.2) := by
  refine Con_of (by decide +kernel) (Nat.le_of_ble_eq_true rfl) (fun E hl hG hn C => ?_)
  subst hl
  subst hG
  have C : Ctx E cX5_mote RX5 1 (some .int) := C
  show V E _ _ 0 [(0, .ref (a0 0)), (1, .int p1), (2, .int p2), (3, .int p3)] []
  unfold fX5_mote at h
  refine V_pb C hn [(.iload_n 1, 1), (.iconst 0, 1), (.iconst 5, 1)] (pc' := 3) (ls' := [(0, .ref (a0 0)), (1, .int p1), (2, .int p2), (3, .int p3)]) (st' := [.int (5 : Int32), .int (0 : Int32), .int p1]) (decB_ok (by decide +kernel)) rfl rfl ?_
  obtain ⟨q1, h2, h⟩ := bnd h
  refine V_callSp C (As := [.int p1, .int (0 : Int32), .int (5 : Int32)]) (rest := []) (by decide +kernel) ok_yX5_within mk_RX5_63 (cfX5_within (l := E.l) (G := E.G) h2) [] rfl rfl rfl rfl (Nat.le_of_ble_eq_true rfl) (Nat.le_of_ble_eq_true rfl) (Nat.le_of_ble_eq_true rfl) ?_
  show V E _ (wdM E.G a0 S0) 6 [(0, .ref (a0 0)), (1, .int p1), (2, .int p2), (3, .int p3)] [.int q1]
  refine V_if_eq C (off := 21) (tgt := 27) (by decide +kernel) (by decide) h (fun _ h => ?_) (fun _ h => ?_)
  · refine V_sub (ls' := [(0, .ref (a0 0))]) rfl ?_
    exact cfX5_mote_j27 C hn h
  · refine V_pb C hn [(.iload_n 2, 1), (.iconst 0, 1), (.bipush 9, 2)] (pc' := 13) (ls' := [(0, .ref (a0 0)), (1, .int p1), (2, .int p2), (3, .int p3)]) (st' := [.int (9 : Int32), .int (0 : Int32), .int p2]) (decB_ok (by decide +kernel)) rfl rfl ?_
    obtain ⟨q5, h6, h⟩ := bnd h
    refine V_callSp C (As := [.int p2, .int (0 : Int32), .int (9 : Int32)]) (rest := []) (by decide +kernel) ok_yX5_within mk_RX5_63 (cfX5_within (l := E.l) (G := E.G) h6) [] rfl rfl rfl rfl (Nat.le_of_ble_eq_true rfl) (Nat.le_of_ble_eq_true rfl) (Nat.le_of_ble_eq_true rfl) ?_
    show V E _ (wdM E.G a0 S0) 16 [(0, .ref (a0 0)), (1, .int p1), (2, .int p2), (3, .int p3)] [.int q5]
    refine V_if_eq C (off := 11) (tgt := 27) (by decide +kernel) (by decide) h (fun _ h => ?_) (fun _ h => ?_)
    · refine V_sub (ls' := [(0, .ref (a0 0))]) rfl ?_
      exact cfX5_mote_j27 C hn h
    · refine V_pb C hn [(.aload_n 0, 1), (.iload_n 3, 1)] (pc' := 21) (ls' := [(0, .ref (a0 0)), (1, .int p1), (2, .int p2), (3, .int p3)]) (st' := [.int p3, .ref (a0 0)]) (decB_ok (by decide +kernel)) rfl rfl ?_
      obtain ⟨q7, h8, h⟩ := bnd h
      refine V_callV0 C (As := [.int p3]) (rest := []) (by decide +kernel) ok_yX5_isCell mk_RX5_102 (cfX5_isCell (l := E.l) (G := E.G) a0 h8) (q0 := 0) rfl rfl rfl rfl rfl rfl (Nat.le_of_ble_eq_true rfl) (Nat.le_of_ble_eq_true rfl) (Nat.le_of_ble_eq_true rfl) ?_
      show V E _ (wdM E.G a0 S0) 24 [(0, .ref (a0 0)), (1, .int p1), (2, .int p2), (3, .int p3)] [.int q7]
      refine V_if_ne C (off := 10) (tgt := 34) (by decide +kernel) (by decide) h (fun _ h => ?_) (fun _ h => ?_)
      · refine V_sub (ls' := [(0, .ref (a0 0))]) rfl ?_
        exact cfX5_mote_j27 C hn h
      · refine V_pb C hn [(.aload_n 0, 1)] (pc' := 35) (ls' := [(0, .ref (a0 0)), (1, .int p1), (2, .int p2), (3, .int p3)]) (st' := [.ref (a0 0)]) (decB_ok (by decide +kernel)) rfl rfl ?_
        refine V_get C (v := .int (m_motes S0)) (by decide +kernel) 0 1 fk_RX5_60 rfl rfl ?_
        refine V_pb C hn [(.bipush 10, 2)] (pc' := 40) (ls' := [(0, .ref (a0 0)), (1, .int p1), (2, .int p2), (3, .int p3)]) (st' := [.int (10 : Int32), .int (m_motes S0)]) (decB_ok (by decide +kernel)) rfl rfl ?_
        refine V_ic_ne C (off := 12) (tgt := 52) (by decide +kernel) (by decide) h (fun _ h => ?_) (fun _ h => ?_)
        · refine V_pb C hn [(.aload_n 0, 1), (.bipush (-6), 2)] (pc' := 46) (ls' := [(0, .ref (a0 0)), (1, .int p1), (2, .int p2), (3, .int p3)]) (st' := [.int (cI (-6)), .ref (a0 0)]) (decB_ok (by decide +kernel)) rfl rfl ?_
          obtain ⟨q9, h10, h⟩ := bnd h
          refine V_callV0 C (As := [.int (cI (-6))]) (rest := []) (by decide +kernel) ok_yX5_no mk_RX5_77 (cfX5_no (l := E.l) (G := E.G) a0 h10) (q0 := 0) rfl rfl rfl rfl rfl rfl (Nat.le_of_ble_eq_true rfl) (Nat.le_of_ble_eq_true rfl) (Nat.le_of_ble_eq_true rfl) ?_
          show V E _ (wdM E.G a0 q9.2) 49 [(0, .ref (a0 0)), (1, .int p1), (2, .int p2), (3, .int p3)] [.int q9.1]
          refine V_goto C (off := 10) (tgt := 59) (by decide +kernel) (by decide) ?_
          have h := Option.some.inj h
          subst h
          exact V_iret C (by decide +kernel) rfl
        · refine V_pb C hn [(.aload_n 0, 1), (.iload_n 1, 1), (.iload_n 2, 1), (.iload_n 3, 1)] (pc' := 56) (ls' := [(0, .ref (a0 0)), (1, .int p1), (2, .int p2), (3, .int p3)]) (st' := [.int p3, .int p2, .int p1, .ref (a0 0)]) (decB_ok (by decide +kernel)) rfl rfl ?_
          obtain ⟨q11, h12, h⟩ := bnd h
          refine V_callV0 C (As := [.int p1, .int p2, .int p3]) (rest := []) (by decide +kernel) ok_yX5_newMote mk_RX5_105 (cfX5_newMote (l := E.l) (G := E.G) a0 h12) (q0 := 0) rfl rfl rfl rfl rfl rfl (Nat.le_of_ble_eq_true rfl) (Nat.le_of_ble_eq_true rfl) (Nat.le_of_ble_eq_true rfl) ?_
          show V E _ (wdM E.G a0 q11.2) 59 [(0, .ref (a0 0)), (1, .int p1), (2, .int p2), (3, .int p3)] [.int q11.1]
          have h := Option.some.inj h
          subst h
          exact V_iret C (by decide +kernel) rfl
set_option maxRecDepth 100000 in
set_option maxHeartbeats 400000 in
theorem cfX5_put_j16 {E : VE} (C : Ctx E cX5_put RX5 2 (some .int)) (hn : E.nL = 4) {a0 : Nat → Nat} {p1 : Int32} {p2 : Int32} {S0 : MT} {out : Int32 × MT} (h : fX5_put_j16 p1 p2 S0 = some out) : V E (QR E (some (.int out.1)) (wdM E.G a0 out.2)) (wdM E.G a0 S0) 16 [(0, .ref (a0 0))] [] := by
  unfold fX5_put_j16 at h
  refine V_pb C hn [(.aload_n 0, 1), (.bipush (-2), 2)] (pc' := 19) (ls' := [(0, .ref (a0 0))]) (st' := [.int (cI (-2)), .ref (a0 0)]) (decB_ok (by decide +kernel)) rfl rfl ?_
  obtain ⟨q3, h4, h⟩ := bnd h
  refine V_callV0 C (As := [.int (cI (-2))]) (rest := []) (by decide +kernel) ok_yX5_no mk_RX5_77 (cfX5_no (l := E.l) (G := E.G) a0 h4) (q0 := 0) rfl rfl rfl rfl rfl rfl (Nat.le_of_ble_eq_true rfl) (Nat.le_of_ble_eq_true rfl) (Nat.le_of_ble_eq_true rfl) ?_
  show V E _ (wdM E.G a0 q3.2) 22 [(0, .ref (a0 0))] [.int q3.1]
  have h := Option.some.inj h
  subst h
  exact V_iret C (by decide +kernel) rfl
set_option maxRecDepth 100000 in
set_option maxHeartbeats 400000 in
theorem cfX5_put {l : Launch} {G : GG} (a0 : Nat → Nat) {p1 : Int32} {p2 : Int32} {S0 : MT} {out : Int32 × MT} (h : fX5_put p1 p2 S0 = some out) : Con l G 2 yX5_put cX5_put 4 (some .int) [.ref (a0 0), .int p1, .int p2] (wdM G a0 S0) (some (.int out.1)) (wdM G a0 out.2) := by
  refine Con_of (by decide +kernel) (Nat.le_of_ble_eq_true rfl) (fun E hl hG hn C => ?_)
  subst hl
  subst hG
  have C : Ctx E cX5_put RX5 2 (some .int) := C
  show V E _ _ 0 [(0, .ref (a0 0)), (1, .int p1), (2, .int p2)] []
  unfold fX5_put at h
  refine V_pb C hn [(.aload_n 0, 1), (.iload_n 1, 1)] (pc' := 2) (ls' := [(0, .ref (a0 0)), (1, .int p1), (2, .int p2)]) (st' := [.int p1, .ref (a0 0)]) (decB_ok (by decide +kernel)) rfl rfl ?_
  obtain ⟨q1, h2, h⟩ := bnd h
  refine V_callV0 C (As := [.int p1]) (rest := []) (by decide +kernel) ok_yX5_isMote mk_RX5_91 (cfX5_isMote (l := E.l) (G := E.G) a0 h2) (q0 := 0) rfl rfl rfl rfl rfl rfl (Nat.le_of_ble_eq_true rfl) (Nat.le_of_ble_eq_true rfl) (Nat.le_of_ble_eq_true rfl) ?_
  show V E _ (wdM E.G a0 S0) 5 [(0, .ref (a0 0)), (1, .int p1), (2, .int p2)] [.int q1]
  refine V_if_eq C (off := 11) (tgt := 16) (by decide +kernel) (by decide) h (fun _ h => ?_) (fun _ h => ?_)
  · refine V_sub (ls' := [(0, .ref (a0 0))]) rfl ?_
    exact cfX5_put_j16 C hn h
  · refine V_pb C hn [(.aload_n 0, 1), (.iload_n 2, 1)] (pc' := 10) (ls' := [(0, .ref (a0 0)), (1, .int p1), (2, .int p2)]) (st' := [.int p2, .ref (a0 0)]) (decB_ok (by decide +kernel)) rfl rfl ?_
    obtain ⟨q5, h6, h⟩ := bnd h
    refine V_callV0 C (As := [.int p2]) (rest := []) (by decide +kernel) ok_yX5_isCell mk_RX5_102 (cfX5_isCell (l := E.l) (G := E.G) a0 h6) (q0 := 0) rfl rfl rfl rfl rfl rfl (Nat.le_of_ble_eq_true rfl) (Nat.le_of_ble_eq_true rfl) (Nat.le_of_ble_eq_true rfl) ?_
    show V E _ (wdM E.G a0 S0) 13 [(0, .ref (a0 0)), (1, .int p1), (2, .int p2)] [.int q5]
    refine V_if_ne C (off := 10) (tgt := 23) (by decide +kernel) (by decide) h (fun _ h => ?_) (fun _ h => ?_)
    · refine V_sub (ls' := [(0, .ref (a0 0))]) rfl ?_
      exact cfX5_put_j16 C hn h
    · refine V_pb C hn [(.aload_n 0, 1)] (pc' := 24) (ls' := [(0, .ref (a0 0)), (1, .int p1), (2, .int p2)]) (st' := [.ref (a0 0)]) (decB_ok (by decide +kernel)) rfl rfl ?_
      refine V_get C (v := .ref (a0 3)) (by decide +kernel) 0 4 fk_RX5_16 rfl rfl ?_
      refine V_pb C hn [(.iload_n 1, 1)] (pc' := 28) (ls' := [(0, .ref (a0 0)), (1, .int p1), (2, .int p2)]) (st' := [.int p1, .ref (a0 3)]) (decB_ok (by decide +kernel)) rfl rfl ?_
      refine V_iald C (f := (m_cell S0)) (by decide +kernel) 3 rfl h (fun h => ?_)
      refine V_pb C hn [(.istore_n 3, 1), (.aload_n 0, 1)] (pc' := 31) (ls' := [(0, .ref (a0 0)), (1, .int p1), (2, .int p2), (3, .int ((m_cell S0) (ix p1)))]) (st' := [.ref (a0 0)]) (decB_ok (by decide +kernel)) rfl rfl ?_
      refine V_get C (v := .ref (a0 3)) (by decide +kernel) 0 4 fk_RX5_16 rfl rfl ?_
      refine V_pb C hn [(.iload_n 1, 1), (.iload_n 2, 1)] (pc' := 36) (ls' := [(0, .ref (a0 0)), (1, .int p1), (2, .int p2), (3, .int ((m_cell S0) (ix p1)))]) (st' := [.int p2, .int p1, .ref (a0 3)]) (decB_ok (by decide +kernel)) rfl rfl ?_
      refine V_iast C (f := (m_cell S0)) (ws' := wdM E.G a0 (ms_cell S0 (upd (m_cell S0) (ix p1) p2))) (by decide +kernel) 3 rfl h rfl (fun h => ?_)
      refine V_pb C hn [(.iload_n 3, 1)] (pc' := 38) (ls' := [(0, .ref (a0 0)), (1, .int p1), (2, .int p2), (3, .int ((m_cell S0) (ix p1)))]) (st' := [.int ((m_cell S0) (ix p1))]) (decB_ok (by decide +kernel)) rfl rfl ?_
      have h := Option.some.inj h
      subst h
      exact V_iret C (by decide +kernel) rfl
set_option maxRecDepth 100000 in
set_option maxHeartbeats 400000 in
theorem cfX5_opens_j26 {E : VE} (C : Ctx E cX5_opens RX5 0 none) (hn : E.nL = 3) {a0 : Nat → Nat} {p1 : Int32} {p2 : Int32} {s0 : Int32} {S0 : MT} {out : MT} (h : fX5_opens_j26 p1 p2 s0 S0 = some out) : V E (QR E none (wdM E.G a0 out)) (wdM E.G a0 S0) 26 [] [.int s0, .ref (a0 0)] := by
  unfold fX5_opens_j26 at h
  refine V_put C (v := .int s0) (ws' := wdM E.G a0 (ms_doors S0 s0)) (by decide +kernel) 0 5 pk_RX5_109 rfl rfl rfl (Nat.le_of_ble_eq_true rfl) rfl ?_
  have h := Option.some.inj h
  subst h
  exact V_vret C (by decide +kernel)
set_option maxRecDepth 100000 in
set_option maxHeartbeats 400000 in
theorem cfX5_opens {l : Launch} {G : GG} (a0 : Nat → Nat) {p1 : Int32} {p2 : Int32} {S0 : MT} {out : MT} (h : fX5_opens p1 p2 S0 = some out) : Con l G 0 yX5_opens cX5_opens 3 none [.ref (a0 0), .int p1, .int p2] (wdM G a0 S0) none (wdM G a0 out) := by
  refine Con_of (by decide +kernel) (Nat.le_of_ble_eq_true rfl) (fun E hl hG hn C => ?_)
  subst hl
  subst hG
  have C : Ctx E cX5_opens RX5 0 none := C
  show V E _ _ 0 [(0, .ref (a0 0)), (1, .int p1), (2, .int p2)] []
  unfold fX5_opens at h
  refine V_pb C hn [(.aload_n 0, 1), (.iload_n 2, 1)] (pc' := 2) (ls' := [(0, .ref (a0 0)), (1, .int p1), (2, .int p2)]) (st' := [.int p2, .ref (a0 0)]) (decB_ok (by decide +kernel)) rfl rfl ?_
  refine V_if_eq C (off := 14) (tgt := 16) (by decide +kernel) (by decide) h (fun _ h => ?_) (fun _ h => ?_)
  · refine V_pb C hn [(.aload_n 0, 1)] (pc' := 17) (ls' := [(0, .ref (a0 0)), (1, .int p1), (2, .int p2)]) (st' := [.ref (a0 0), .ref (a0 0)]) (decB_ok (by decide +kernel)) rfl rfl ?_
    refine V_get C (v := .int (m_doors S0)) (by decide +kernel) 0 5 fk_RX5_109 rfl rfl ?_
    refine V_pb C hn [(.iconst 1, 1), (.iload_n 1, 1), (.ishl, 1), (.iconst (-1), 1), (.ixor, 1), (.iand, 1)] (pc' := 26) (ls' := [(0, .ref (a0 0)), (1, .int p1), (2, .int p2)]) (st' := [.int ((m_doors S0) &&& ((jshl (1 : Int32) p1) ^^^ (cI (-1)))), .ref (a0 0)]) (decB_ok (by decide +kernel)) rfl rfl ?_
    refine V_sub (ls' := []) rfl ?_
    exact cfX5_opens_j26 C hn h
  · refine V_pb C hn [(.aload_n 0, 1)] (pc' := 6) (ls' := [(0, .ref (a0 0)), (1, .int p1), (2, .int p2)]) (st' := [.ref (a0 0), .ref (a0 0)]) (decB_ok (by decide +kernel)) rfl rfl ?_
    refine V_get C (v := .int (m_doors S0)) (by decide +kernel) 0 5 fk_RX5_109 rfl rfl ?_
    refine V_pb C hn [(.iconst 1, 1), (.iload_n 1, 1), (.ishl, 1), (.ior, 1)] (pc' := 13) (ls' := [(0, .ref (a0 0)), (1, .int p1), (2, .int p2)]) (st' := [.int ((m_doors S0) ||| (jshl (1 : Int32) p1)), .ref (a0 0)]) (decB_ok (by decide +kernel)) rfl rfl ?_
    refine V_goto C (off := 13) (tgt := 26) (by decide +kernel) (by decide) ?_
    refine V_sub (ls' := []) rfl ?_
    exact cfX5_opens_j26 C hn h
set_option maxRecDepth 100000 in
set_option maxHeartbeats 400000 in
theorem cfX5_door {l : Launch} {G : GG} (a0 : Nat → Nat) {p1 : Int32} {p2 : Int32} {S0 : MT} {out : Int32 × MT} (h : fX5_door p1 p2 S0 = some out) : Con l G 1 yX5_door cX5_door 4 (some .int) [.ref (a0 0), .int p1, .int p2] (wdM G a0 S0) (some (.int out.1)) (wdM G a0 out.2) := by
  refine Con_of (by decide +kernel) (Nat.le_of_ble_eq_true rfl) (fun E hl hG hn C => ?_)
  subst hl
  subst hG
  have C : Ctx E cX5_door RX5 1 (some .int) := C
  show V E _ _ 0 [(0, .ref (a0 0)), (1, .int p1), (2, .int p2)] []
  unfold fX5_door at h
  refine V_pb C hn [(.iload_n 1, 1), (.iconst 0, 1), (.iconst 3, 1)] (pc' := 3) (ls' := [(0, .ref (a0 0)), (1, .int p1), (2, .int p2)]) (st' := [.int (3 : Int32), .int (0 : Int32), .int p1]) (decB_ok (by decide +kernel)) rfl rfl ?_
  obtain ⟨q1, h2, h⟩ := bnd h
  refine V_callSp C (As := [.int p1, .int (0 : Int32), .int (3 : Int32)]) (rest := []) (by decide +kernel) ok_yX5_within mk_RX5_63 (cfX5_within (l := E.l) (G := E.G) h2) [] rfl rfl rfl rfl (Nat.le_of_ble_eq_true rfl) (Nat.le_of_ble_eq_true rfl) (Nat.le_of_ble_eq_true rfl) ?_
  show V E _ (wdM E.G a0 S0) 6 [(0, .ref (a0 0)), (1, .int p1), (2, .int p2)] [.int q1]
  refine V_if_ne C (off := 10) (tgt := 16) (by decide +kernel) (by decide) h (fun _ h => ?_) (fun _ h => ?_)
  · refine V_pb C hn [(.aload_n 0, 1), (.bipush (-2), 2)] (pc' := 12) (ls' := [(0, .ref (a0 0)), (1, .int p1), (2, .int p2)]) (st' := [.int (cI (-2)), .ref (a0 0)]) (decB_ok (by decide +kernel)) rfl rfl ?_
    obtain ⟨q3, h4, h⟩ := bnd h
    refine V_callV0 C (As := [.int (cI (-2))]) (rest := []) (by decide +kernel) ok_yX5_no mk_RX5_77 (cfX5_no (l := E.l) (G := E.G) a0 h4) (q0 := 0) rfl rfl rfl rfl rfl rfl (Nat.le_of_ble_eq_true rfl) (Nat.le_of_ble_eq_true rfl) (Nat.le_of_ble_eq_true rfl) ?_
    show V E _ (wdM E.G a0 q3.2) 15 [(0, .ref (a0 0)), (1, .int p1), (2, .int p2)] [.int q3.1]
    have h := Option.some.inj h
    subst h
    exact V_iret C (by decide +kernel) rfl
  · refine V_pb C hn [(.aload_n 0, 1)] (pc' := 17) (ls' := [(0, .ref (a0 0)), (1, .int p1), (2, .int p2)]) (st' := [.ref (a0 0)]) (decB_ok (by decide +kernel)) rfl rfl ?_
    refine V_get C (v := .int (m_doors S0)) (by decide +kernel) 0 5 fk_RX5_109 rfl rfl ?_
    refine V_pb C hn [(.iload_n 1, 1), (.ishr, 1), (.iconst 1, 1), (.iand, 1), (.istore_n 3, 1), (.aload_n 0, 1), (.iload_n 1, 1), (.iload_n 2, 1)] (pc' := 28) (ls' := [(0, .ref (a0 0)), (1, .int p1), (2, .int p2), (3, .int ((jshr (m_doors S0) p1) &&& (1 : Int32)))]) (st' := [.int p2, .int p1, .ref (a0 0)]) (decB_ok (by decide +kernel)) rfl rfl ?_
    obtain ⟨q5, h6, h⟩ := bnd h
    refine V_callV0 C (As := [.int p1, .int p2]) (rest := []) (by decide +kernel) ok_yX5_opens mk_RX5_112 (cfX5_opens (l := E.l) (G := E.G) a0 h6) (q0 := 0) rfl rfl rfl rfl rfl rfl (Nat.le_of_ble_eq_true rfl) (Nat.le_of_ble_eq_true rfl) (Nat.le_of_ble_eq_true rfl) ?_
    show V E _ (wdM E.G a0 q5) 31 [(0, .ref (a0 0)), (1, .int p1), (2, .int p2), (3, .int ((jshr (m_doors S0) p1) &&& (1 : Int32)))] []
    refine V_pb C hn [(.iload_n 3, 1)] (pc' := 32) (ls' := [(0, .ref (a0 0)), (1, .int p1), (2, .int p2), (3, .int ((jshr (m_doors S0) p1) &&& (1 : Int32)))]) (st' := [.int ((jshr (m_doors S0) p1) &&& (1 : Int32))]) (decB_ok (by decide +kernel)) rfl rfl ?_
    have h := Option.some.inj h
    subst h
    exact V_iret C (by decide +kernel) rfl
set_option maxRecDepth 100000 in
set_option maxHeartbeats 400000 in
theorem cfX5_highest {l : Launch} {G : GG} {p0 : Int32} {out : Int32} (h : fX5_highest p0 = some out) : Con l G 0 yX5_highest cX5_highest 1 (some .int) [.int p0] (([] : va_W)) (some (.int out)) (([] : va_W)) := by
  refine Con_of (by decide +kernel) (Nat.le_of_ble_eq_true rfl) (fun E hl hG hn C => ?_)
  subst hl
  subst hG
  have C : Ctx E cX5_highest RX5 0 (some .int) := C
  show V E _ _ 0 [(0, .int p0)] []
  unfold fX5_highest at h
  refine V_pb C hn [(.iload_n 0, 1)] (pc' := 1) (ls' := [(0, .int p0)]) (st' := [.int p0]) (decB_ok (by decide +kernel)) rfl rfl ?_
  refine V_if_ne C (off := 7) (tgt := 8) (by decide +kernel) (by decide) h (fun _ h => ?_) (fun _ h => ?_)
  · refine V_pb C hn [(.iconst 4, 1)] (pc' := 5) (ls' := [(0, .int p0)]) (st' := [.int (4 : Int32)]) (decB_ok (by decide +kernel)) rfl rfl ?_
    refine V_goto C (off := 36) (tgt := 41) (by decide +kernel) (by decide) ?_
    have h := Option.some.inj h
    subst h
    exact V_iret C (by decide +kernel) rfl
  · refine V_pb C hn [(.iload_n 0, 1), (.iconst 1, 1)] (pc' := 10) (ls' := [(0, .int p0)]) (st' := [.int (1 : Int32), .int p0]) (decB_ok (by decide +kernel)) rfl rfl ?_
    refine V_ic_ne C (off := 8) (tgt := 18) (by decide +kernel) (by decide) h (fun _ h => ?_) (fun _ h => ?_)
    · refine V_pb C hn [(.bipush 9, 2)] (pc' := 15) (ls' := [(0, .int p0)]) (st' := [.int (9 : Int32)]) (decB_ok (by decide +kernel)) rfl rfl ?_
      refine V_goto C (off := 26) (tgt := 41) (by decide +kernel) (by decide) ?_
      have h := Option.some.inj h
      subst h
      exact V_iret C (by decide +kernel) rfl
    · refine V_pb C hn [(.iload_n 0, 1), (.iconst 2, 1)] (pc' := 20) (ls' := [(0, .int p0)]) (st' := [.int (2 : Int32), .int p0]) (decB_ok (by decide +kernel)) rfl rfl ?_
      refine V_ic_ne C (off := 9) (tgt := 29) (by decide +kernel) (by decide) h (fun _ h => ?_) (fun _ h => ?_)
      · refine V_pb C hn [(.sipush 999, 3)] (pc' := 26) (ls' := [(0, .int p0)]) (st' := [.int (999 : Int32)]) (decB_ok (by decide +kernel)) rfl rfl ?_
        refine V_goto C (off := 15) (tgt := 41) (by decide +kernel) (by decide) ?_
        have h := Option.some.inj h
        subst h
        exact V_iret C (by decide +kernel) rfl
      · refine V_pb C hn [(.iload_n 0, 1), (.iconst 3, 1)] (pc' := 31) (ls' := [(0, .int p0)]) (st' := [.int (3 : Int32), .int p0]) (decB_ok (by decide +kernel)) rfl rfl ?_
        refine V_ic_ne C (off := 8) (tgt := 39) (by decide +kernel) (by decide) h (fun _ h => ?_) (fun _ h => ?_)
        · refine V_pb C hn [(.bipush 6, 2)] (pc' := 36) (ls' := [(0, .int p0)]) (st' := [.int (6 : Int32)]) (decB_ok (by decide +kernel)) rfl rfl ?_
          refine V_goto C (off := 5) (tgt := 41) (by decide +kernel) (by decide) ?_
          have h := Option.some.inj h
          subst h
          exact V_iret C (by decide +kernel) rfl
        · refine V_pb C hn [(.bipush 12, 2)] (pc' := 41) (ls' := [(0, .int p0)]) (st' := [.int (12 : Int32)]) (decB_ok (by decide +kernel)) rfl rfl ?_
          have h := Option.some.inj h
          subst h
          exact V_iret C (by decide +kernel) rfl
set_option maxRecDepth 100000 in
set_option maxHeartbeats 400000 in
theorem cfX5_tell_j21 {E : VE} (C : Ctx E cX5_tell RX5 1 (some .int)) (hn : E.nL = 4) {a0 : Nat → Nat} {p1 : Int32} {p2 : Int32} {S0 : MT} {out : Int32 × MT} (h : fX5_tell_j21 p1 p2 S0 = some out) : V E (QR E (some (.int out.1)) (wdM E.G a0 out.2)) (wdM E.G a0 S0) 21 [(0, .ref (a0 0))] [] := by
  unfold fX5_tell_j21 at h
  refine V_pb C hn [(.aload_n 0, 1), (.bipush (-2), 2)] (pc' := 24) (ls' := [(0, .ref (a0 0))]) (st' := [.int (cI (-2)), .ref (a0 0)]) (decB_ok (by decide +kernel)) rfl rfl ?_
  obtain ⟨q3, h4, h⟩ := bnd h
  refine V_callV0 C (As := [.int (cI (-2))]) (rest := []) (by decide +kernel) ok_yX5_no mk_RX5_77 (cfX5_no (l := E.l) (G := E.G) a0 h4) (q0 := 0) rfl rfl rfl rfl rfl rfl (Nat.le_of_ble_eq_true rfl) (Nat.le_of_ble_eq_true rfl) (Nat.le_of_ble_eq_true rfl) ?_
  show V E _ (wdM E.G a0 q3.2) 27 [(0, .ref (a0 0))] [.int q3.1]
  have h := Option.some.inj h
  subst h
  exact V_iret C (by decide +kernel) rfl
set_option maxRecDepth 100000 in
set_option maxHeartbeats 400000 in
theorem cfX5_tell {l : Launch} {G : GG} (a0 : Nat → Nat) {p1 : Int32} {p2 : Int32} {S0 : MT} {out : Int32 × MT} (h : fX5_tell p1 p2 S0 = some out) : Con l G 1 yX5_tell cX5_tell 4 (some .int) [.ref (a0 0), .int p1, .int p2] (wdM G a0 S0) (some (.int out.1)) (wdM G a0 out.2) := by
  refine Con_of (by decide +kernel) (Nat.le_of_ble_eq_true rfl) (fun E hl hG hn C => ?_)
  subst hl
  subst hG
  have C : Ctx E cX5_tell RX5 1 (some .int) := C
  show V E _ _ 0 [(0, .ref (a0 0)), (1, .int p1), (2, .int p2)] []
  unfold fX5_tell at h
  refine V_pb C hn [(.iload_n 1, 1), (.iconst 0, 1), (.iconst 4, 1)] (pc' := 3) (ls' := [(0, .ref (a0 0)), (1, .int p1), (2, .int p2)]) (st' := [.int (4 : Int32), .int (0 : Int32), .int p1]) (decB_ok (by decide +kernel)) rfl rfl ?_
  obtain ⟨q1, h2, h⟩ := bnd h
  refine V_callSp C (As := [.int p1, .int (0 : Int32), .int (4 : Int32)]) (rest := []) (by decide +kernel) ok_yX5_within mk_RX5_63 (cfX5_within (l := E.l) (G := E.G) h2) [] rfl rfl rfl rfl (Nat.le_of_ble_eq_true rfl) (Nat.le_of_ble_eq_true rfl) (Nat.le_of_ble_eq_true rfl) ?_
  show V E _ (wdM E.G a0 S0) 6 [(0, .ref (a0 0)), (1, .int p1), (2, .int p2)] [.int q1]
  refine V_if_eq C (off := 15) (tgt := 21) (by decide +kernel) (by decide) h (fun _ h => ?_) (fun _ h => ?_)
  · refine V_sub (ls' := [(0, .ref (a0 0))]) rfl ?_
    exact cfX5_tell_j21 C hn h
  · refine V_pb C hn [(.iload_n 2, 1), (.iconst 0, 1), (.iload_n 1, 1)] (pc' := 12) (ls' := [(0, .ref (a0 0)), (1, .int p1), (2, .int p2)]) (st' := [.int p1, .int (0 : Int32), .int p2]) (decB_ok (by decide +kernel)) rfl rfl ?_
    obtain ⟨q5, h6, h⟩ := bnd h
    refine V_callSp C (As := [.int p1]) (rest := [.int (0 : Int32), .int p2]) (by decide +kernel) ok_yX5_highest mk_RX5_116 (cfX5_highest (l := E.l) (G := E.G) h6) [] rfl rfl rfl rfl (Nat.le_of_ble_eq_true rfl) (Nat.le_of_ble_eq_true rfl) (Nat.le_of_ble_eq_true rfl) ?_
    show V E _ (wdM E.G a0 S0) 15 [(0, .ref (a0 0)), (1, .int p1), (2, .int p2)] [.int q5, .int (0 : Int32), .int p2]
    obtain ⟨q7, h8, h⟩ := bnd h
    refine V_callSp C (As := [.int p2, .int (0 : Int32), .int q5]) (rest := []) (by decide +kernel) ok_yX5_within mk_RX5_63 (cfX5_within (l := E.l) (G := E.G) h8) [] rfl rfl rfl rfl (Nat.le_of_ble_eq_true rfl) (Nat.le_of_ble_eq_true rfl) (Nat.le_of_ble_eq_true rfl) ?_
    show V E _ (wdM E.G a0 S0) 18 [(0, .ref (a0 0)), (1, .int p1), (2, .int p2)] [.int q7]
    refine V_if_ne C (off := 10) (tgt := 28) (by decide +kernel) (by decide) h (fun _ h => ?_) (fun _ h => ?_)
    · refine V_sub (ls' := [(0, .ref (a0 0))]) rfl ?_
      exact cfX5_tell_j21 C hn h
    · refine V_pb C hn [(.aload_n 0, 1)] (pc' := 29) (ls' := [(0, .ref (a0 0)), (1, .int p1), (2, .int p2)]) (st' := [.ref (a0 0)]) (decB_ok (by decide +kernel)) rfl rfl ?_
      refine V_get C (v := .ref (a0 4)) (by decide +kernel) 0 6 fk_RX5_19 rfl rfl ?_
      refine V_pb C hn [(.iload_n 1, 1)] (pc' := 33) (ls' := [(0, .ref (a0 0)), (1, .int p1), (2, .int p2)]) (st' := [.int p1, .ref (a0 4)]) (decB_ok (by decide +kernel)) rfl rfl ?_
      refine V_iald C (f := (m_ways S0)) (by decide +kernel) 4 rfl h (fun h => ?_)
      refine V_pb C hn [(.istore_n 3, 1), (.aload_n 0, 1)] (pc' := 36) (ls' := [(0, .ref (a0 0)), (1, .int p1), (2, .int p2), (3, .int ((m_ways S0) (ix p1)))]) (st' := [.ref (a0 0)]) (decB_ok (by decide +kernel)) rfl rfl ?_
      refine V_get C (v := .ref (a0 4)) (by decide +kernel) 0 6 fk_RX5_19 rfl rfl ?_
      refine V_pb C hn [(.iload_n 1, 1), (.iload_n 2, 1)] (pc' := 41) (ls' := [(0, .ref (a0 0)), (1, .int p1), (2, .int p2), (3, .int ((m_ways S0) (ix p1)))]) (st' := [.int p2, .int p1, .ref (a0 4)]) (decB_ok (by decide +kernel)) rfl rfl ?_
      refine V_iast C (f := (m_ways S0)) (ws' := wdM E.G a0 (ms_ways S0 (upd (m_ways S0) (ix p1) p2))) (by decide +kernel) 4 rfl h rfl (fun h => ?_)
      refine V_pb C hn [(.iload_n 3, 1)] (pc' := 43) (ls' := [(0, .ref (a0 0)), (1, .int p1), (2, .int p2), (3, .int ((m_ways S0) (ix p1)))]) (st' := [.int ((m_ways S0) (ix p1))]) (decB_ok (by decide +kernel)) rfl rfl ?_
      have h := Option.some.inj h
      subst h
      exact V_iret C (by decide +kernel) rfl
set_option maxRecDepth 100000 in
set_option maxHeartbeats 400000 in
theorem cfX5_feed {l : Launch} {G : GG} (a0 : Nat → Nat) {p1 : Int32} {S0 : MT} {out : Int32 × MT} (h : fX5_feed p1 S0 = some out) : Con l G 1 yX5_feed cX5_feed 2 (some .int) [.ref (a0 0), .int p1] (wdM G a0 S0) (some (.int out.1)) (wdM G a0 out.2) := by
  refine Con_of (by decide +kernel) (Nat.le_of_ble_eq_true rfl) (fun E hl hG hn C => ?_)
  subst hl
  subst hG
  have C : Ctx E cX5_feed RX5 1 (some .int) := C
  show V E _ _ 0 [(0, .ref (a0 0)), (1, .int p1)] []
  unfold fX5_feed at h
  refine V_pb C hn [(.iload_n 1, 1), (.iconst 0, 1), (.sipush 255, 3)] (pc' := 5) (ls' := [(0, .ref (a0 0)), (1, .int p1)]) (st' := [.int (255 : Int32), .int (0 : Int32), .int p1]) (decB_ok (by decide +kernel)) rfl rfl ?_
  obtain ⟨q1, h2, h⟩ := bnd h
  refine V_callSp C (As := [.int p1, .int (0 : Int32), .int (255 : Int32)]) (rest := []) (by decide +kernel) ok_yX5_within mk_RX5_63 (cfX5_within (l := E.l) (G := E.G) h2) [] rfl rfl rfl rfl (Nat.le_of_ble_eq_true rfl) (Nat.le_of_ble_eq_true rfl) (Nat.le_of_ble_eq_true rfl) ?_
  show V E _ (wdM E.G a0 S0) 8 [(0, .ref (a0 0)), (1, .int p1)] [.int q1]
  refine V_if_ne C (off := 10) (tgt := 18) (by decide +kernel) (by decide) h (fun _ h => ?_) (fun _ h => ?_)
  · refine V_pb C hn [(.aload_n 0, 1), (.bipush (-2), 2)] (pc' := 14) (ls' := [(0, .ref (a0 0)), (1, .int p1)]) (st' := [.int (cI (-2)), .ref (a0 0)]) (decB_ok (by decide +kernel)) rfl rfl ?_
    obtain ⟨q3, h4, h⟩ := bnd h
    refine V_callV0 C (As := [.int (cI (-2))]) (rest := []) (by decide +kernel) ok_yX5_no mk_RX5_77 (cfX5_no (l := E.l) (G := E.G) a0 h4) (q0 := 0) rfl rfl rfl rfl rfl rfl (Nat.le_of_ble_eq_true rfl) (Nat.le_of_ble_eq_true rfl) (Nat.le_of_ble_eq_true rfl) ?_
    show V E _ (wdM E.G a0 q3.2) 17 [(0, .ref (a0 0)), (1, .int p1)] [.int q3.1]
    have h := Option.some.inj h
    subst h
    exact V_iret C (by decide +kernel) rfl
  · refine V_pb C hn [(.aload_n 0, 1)] (pc' := 19) (ls' := [(0, .ref (a0 0)), (1, .int p1)]) (st' := [.ref (a0 0)]) (decB_ok (by decide +kernel)) rfl rfl ?_
    refine V_get C (v := .int (m_taped S0)) (by decide +kernel) 0 8 fk_RX5_119 rfl rfl ?_
    refine V_pb C hn [(.sipush 250, 3)] (pc' := 25) (ls' := [(0, .ref (a0 0)), (1, .int p1)]) (st' := [.int (250 : Int32), .int (m_taped S0)]) (decB_ok (by decide +kernel)) rfl rfl ?_
    refine V_ic_ne C (off := 10) (tgt := 35) (by decide +kernel) (by decide) h (fun _ h => ?_) (fun _ h => ?_)
    · refine V_pb C hn [(.aload_n 0, 1), (.bipush (-6), 2)] (pc' := 31) (ls' := [(0, .ref (a0 0)), (1, .int p1)]) (st' := [.int (cI (-6)), .ref (a0 0)]) (decB_ok (by decide +kernel)) rfl rfl ?_
      obtain ⟨q5, h6, h⟩ := bnd h
      refine V_callV0 C (As := [.int (cI (-6))]) (rest := []) (by decide +kernel) ok_yX5_no mk_RX5_77 (cfX5_no (l := E.l) (G := E.G) a0 h6) (q0 := 0) rfl rfl rfl rfl rfl rfl (Nat.le_of_ble_eq_true rfl) (Nat.le_of_ble_eq_true rfl) (Nat.le_of_ble_eq_true rfl) ?_
      show V E _ (wdM E.G a0 q5.2) 34 [(0, .ref (a0 0)), (1, .int p1)] [.int q5.1]
      have h := Option.some.inj h
      subst h
      exact V_iret C (by decide +kernel) rfl
    · refine V_pb C hn [(.aload_n 0, 1)] (pc' := 36) (ls' := [(0, .ref (a0 0)), (1, .int p1)]) (st' := [.ref (a0 0)]) (decB_ok (by decide +kernel)) rfl rfl ?_
      refine V_get C (v := .ref (a0 5)) (by decide +kernel) 0 9 fk_RX5_22 rfl rfl ?_
      refine V_pb C hn [(.aload_n 0, 1), (.dup, 1)] (pc' := 41) (ls' := [(0, .ref (a0 0)), (1, .int p1)]) (st' := [.ref (a0 0), .ref (a0 0), .ref (a0 5)]) (decB_ok (by decide +kernel)) rfl rfl ?_
      refine V_get C (v := .int (m_taped S0)) (by decide +kernel) 0 8 fk_RX5_119 rfl rfl ?_
      refine V_pb C hn [(.dup_x1, 1), (.iconst 1, 1), (.iadd, 1)] (pc' := 47) (ls' := [(0, .ref (a0 0)), (1, .int p1)]) (st' := [.int ((m_taped S0) + (1 : Int32)), .ref (a0 0), .int (m_taped S0), .ref (a0 5)]) (decB_ok (by decide +kernel)) rfl rfl ?_
      obtain ⟨x7, e8, h⟩ := bnd h
      refine V_topi e8 ?_
      obtain ⟨w9, e10, h⟩ := bnd h
      refine V_put C (v := .int x7) (ws' := wdM E.G a0 w9) (by decide +kernel) 0 8 pk_RX5_119 rfl rfl rfl (Nat.le_of_ble_eq_true rfl) (by cases e10; rfl) ?_
      refine V_pb C hn [(.iload_n 1, 1)] (pc' := 51) (ls' := [(0, .ref (a0 0)), (1, .int p1)]) (st' := [.int p1, .int (m_taped S0), .ref (a0 5)]) (decB_ok (by decide +kernel)) rfl rfl ?_
      obtain ⟨hb9, h⟩ := gd_some h
      obtain ⟨w11, e12, h⟩ := bnd h
      refine V_iast C (f := (m_tape w9)) (ws' := wdM E.G a0 w11) (by decide +kernel) 5 rfl (o := some ()) (out := ()) (by rw [hb9]; rfl) (by cases e12; rfl) (fun _ => ?_)
      refine V_pb C hn [(.aload_n 0, 1)] (pc' := 53) (ls' := [(0, .ref (a0 0)), (1, .int p1)]) (st' := [.ref (a0 0)]) (decB_ok (by decide +kernel)) rfl rfl ?_
      refine V_get C (v := .int (m_taped w11)) (by decide +kernel) 0 8 fk_RX5_119 rfl rfl ?_
      have h := Option.some.inj h
      subst h
      exact V_iret C (by decide +kernel) rfl
set_option maxRecDepth 100000 in
set_option maxHeartbeats 400000 in
theorem cfX5_wipe {l : Launch} {G : GG} (a0 : Nat → Nat) {S0 : MT} {out : Int32 × MT} (h : fX5_wipe S0 = some out) : Con l G 0 yX5_wipe cX5_wipe 2 (some .int) [.ref (a0 0)] (wdM G a0 S0) (some (.int out.1)) (wdM G a0 out.2) := by
  refine Con_of (by decide +kernel) (Nat.le_of_ble_eq_true rfl) (fun E hl hG hn C => ?_)
  subst hl
  subst hG
  have C : Ctx E cX5_wipe RX5 0 (some .int) := C
  show V E _ _ 0 [(0, .ref (a0 0))] []
  unfold fX5_wipe at h
  refine V_pb C hn [(.aload_n 0, 1)] (pc' := 1) (ls' := [(0, .ref (a0 0))]) (st' := [.ref (a0 0)]) (decB_ok (by decide +kernel)) rfl rfl ?_
  refine V_get C (v := .int (m_taped S0)) (by decide +kernel) 0 8 fk_RX5_119 rfl rfl ?_
  refine V_pb C hn [(.istore_n 1, 1), (.aload_n 0, 1), (.iconst 0, 1)] (pc' := 7) (ls' := [(0, .ref (a0 0)), (1, .int (m_taped S0))]) (st' := [.int (0 : Int32), .ref (a0 0)]) (decB_ok (by decide +kernel)) rfl rfl ?_
  refine V_put C (v := .int (0 : Int32)) (ws' := wdM E.G a0 (ms_taped S0 (0 : Int32))) (by decide +kernel) 0 8 pk_RX5_119 rfl rfl rfl (Nat.le_of_ble_eq_true rfl) rfl ?_
  refine V_pb C hn [(.iload_n 1, 1)] (pc' := 11) (ls' := [(0, .ref (a0 0)), (1, .int (m_taped S0))]) (st' := [.int (m_taped S0)]) (decB_ok (by decide +kernel)) rfl rfl ?_
  have h := Option.some.inj h
  subst h
  exact V_iret C (by decide +kernel) rfl
set_option maxRecDepth 100000 in
set_option maxHeartbeats 400000 in
theorem cfX5_keep_old_j72 {E : VE} (C : Ctx E cX5_keep RX5 0 none) (hn : E.nL = 3) {a0 : Nat → Nat} {S0 : MT} {out : MT} (h : fX5_keep_old_j72 S0 = some out) : V E (QR E none (wdM E.G a0 out)) (wdM E.G a0 S0) 72 [(0, .ref (a0 0)), (1, .ref (a0 10))] [] := by
  unfold fX5_keep_old_j72 at h
  refine V_pb C hn [(.aload_n 1, 1), (.bipush 35, 2), (.aload_n 0, 1)] (pc' := 76) (ls' := [(0, .ref (a0 0)), (1, .ref (a0 10))]) (st' := [.ref (a0 0), .int (35 : Int32), .ref (a0 10)]) (decB_ok (by decide +kernel)) rfl rfl ?_
  refine V_get C (v := .int (m_n S0)) (by decide +kernel) 0 0 fk_RX5_53 rfl rfl ?_
  obtain ⟨x1, e2, h⟩ := bnd h
  refine V_top2 e2 ?_
  obtain ⟨hb9, h⟩ := gd_some h
  obtain ⟨w3, e4, h⟩ := bnd h
  refine V_iast C (f := (m_old S0)) (ws' := wdM E.G a0 w3) (by decide +kernel) 10 rfl (o := some ()) (out := ()) (by rw [hb9]; rfl) (by cases e4; rfl) (fun _ => ?_)
  refine V_pb C hn [(.aload_n 1, 1), (.bipush 36, 2), (.aload_n 0, 1)] (pc' := 84) (ls' := [(0, .ref (a0 0)), (1, .ref (a0 10))]) (st' := [.ref (a0 0), .int (36 : Int32), .ref (a0 10)]) (decB_ok (by decide +kernel)) rfl rfl ?_
  refine V_get C (v := .int (m_motes w3)) (by decide +kernel) 0 1 fk_RX5_60 rfl rfl ?_
  obtain ⟨x5, e6, h⟩ := bnd h
  refine V_top2 e6 ?_
  obtain ⟨hb9, h⟩ := gd_some h
  obtain ⟨w7, e8, h⟩ := bnd h
  refine V_iast C (f := (m_old w3)) (ws' := wdM E.G a0 w7) (by decide +kernel) 10 rfl (o := some ()) (out := ()) (by rw [hb9]; rfl) (by cases e8; rfl) (fun _ => ?_)
  refine V_pb C hn [(.aload_n 1, 1), (.bipush 37, 2), (.aload_n 0, 1)] (pc' := 92) (ls' := [(0, .ref (a0 0)), (1, .ref (a0 10))]) (st' := [.ref (a0 0), .int (37 : Int32), .ref (a0 10)]) (decB_ok (by decide +kernel)) rfl rfl ?_
  refine V_get C (v := .int (m_doors w7)) (by decide +kernel) 0 5 fk_RX5_109 rfl rfl ?_
  obtain ⟨x9, e10, h⟩ := bnd h
  refine V_top2 e10 ?_
  obtain ⟨hb9, h⟩ := gd_some h
  obtain ⟨w11, e12, h⟩ := bnd h
  refine V_iast C (f := (m_old w7)) (ws' := wdM E.G a0 w11) (by decide +kernel) 10 rfl (o := some ()) (out := ()) (by rw [hb9]; rfl) (by cases e12; rfl) (fun _ => ?_)
  refine V_pb C hn [(.aload_n 1, 1), (.bipush 38, 2), (.aload_n 0, 1)] (pc' := 100) (ls' := [(0, .ref (a0 0)), (1, .ref (a0 10))]) (st' := [.ref (a0 0), .int (38 : Int32), .ref (a0 10)]) (decB_ok (by decide +kernel)) rfl rfl ?_
  refine V_get C (v := .int (m_seed w11)) (by decide +kernel) 0 7 fk_RX5_57 rfl rfl ?_
  obtain ⟨x13, e14, h⟩ := bnd h
  refine V_top2 e14 ?_
  obtain ⟨hb9, h⟩ := gd_some h
  obtain ⟨w15, e16, h⟩ := bnd h
  refine V_iast C (f := (m_old w11)) (ws' := wdM E.G a0 w15) (by decide +kernel) 10 rfl (o := some ()) (out := ()) (by rw [hb9]; rfl) (by cases e16; rfl) (fun _ => ?_)
  have h := Option.some.inj h
  subst h
  exact V_vret C (by decide +kernel)
set_option maxRecDepth 100000 in
set_option maxHeartbeats 400000 in
theorem cfX5_keep_old_L49 {E : VE} (C : Ctx E cX5_keep RX5 0 none) (hn : E.nL = 3) {a0 : Nat → Nat} {out : MT} : ∀ (n : Nat) (v2 : Int32) (S0 : MT), fX5_keep_old_L49 n v2 S0 = some out → V E (QR E none (wdM E.G a0 out)) (wdM E.G a0 S0) 49 [(0, .ref (a0 0)), (1, .ref (a0 10)), (2, .int v2)] [] := by
  intro n
  induction n with
  | zero =>
    intro v2 S0 h
    cases h
  | succ n ih =>
    intro v2 S0 h
    unfold fX5_keep_old_L49 at h
    refine V_pb C hn [(.iload_n 2, 1), (.iconst 5, 1)] (pc' := 51) (ls' := [(0, .ref (a0 0)), (1, .ref (a0 10)), (2, .int v2)]) (st' := [.int (5 : Int32), .int v2]) (decB_ok (by decide +kernel)) rfl rfl ?_
    refine V_ic_ge C (off := 21) (tgt := 72) (by decide +kernel) (by decide) h (fun _ h => ?_) (fun _ h => ?_)
    · refine V_sub (ls' := [(0, .ref (a0 0)), (1, .ref (a0 10))]) rfl ?_
      exact cfX5_keep_old_j72 C hn h
    · refine V_pb C hn [(.aload_n 1, 1), (.bipush 30, 2), (.iload_n 2, 1), (.iadd, 1), (.aload_n 0, 1)] (pc' := 60) (ls' := [(0, .ref (a0 0)), (1, .ref (a0 10)), (2, .int v2)]) (st' := [.ref (a0 0), .int ((30 : Int32) + v2), .ref (a0 10)]) (decB_ok (by decide +kernel)) rfl rfl ?_
      refine V_get C (v := .ref (a0 4)) (by decide +kernel) 0 6 fk_RX5_19 rfl rfl ?_
      refine V_pb C hn [(.iload_n 2, 1)] (pc' := 64) (ls' := [(0, .ref (a0 0)), (1, .ref (a0 10)), (2, .int v2)]) (st' := [.int v2, .ref (a0 4), .int ((30 : Int32) + v2), .ref (a0 10)]) (decB_ok (by decide +kernel)) rfl rfl ?_
      refine V_iald C (f := (m_ways S0)) (by decide +kernel) 4 rfl h (fun h => ?_)
      obtain ⟨x17, e18, h⟩ := bnd h
      refine V_topi e18 ?_
      obtain ⟨x19, e20, h⟩ := bnd h
      refine V_top2 e20 ?_
      obtain ⟨hb9, h⟩ := gd_some h
      obtain ⟨w21, e22, h⟩ := bnd h
      refine V_iast C (f := (m_old S0)) (ws' := wdM E.G a0 w21) (by decide +kernel) 10 rfl (o := some ()) (out := ()) (by rw [hb9]; rfl) (by cases e22; rfl) (fun _ => ?_)
      refine V_pb C hn [(.iinc 2 1, 3)] (pc' := 69) (ls' := [(0, .ref (a0 0)), (1, .ref (a0 10)), (2, .int (v2 + (1 : Int32)))]) (st' := []) (decB_ok (by decide +kernel)) rfl rfl ?_
      refine V_goto C (off := -20) (tgt := 49) (by decide +kernel) (by decide) ?_
      refine V_sub (ls' := [(0, .ref (a0 0)), (1, .ref (a0 10)), (2, .int (v2 + (1 : Int32)))]) rfl ?_
      exact ih _ _ h
set_option maxRecDepth 100000 in
set_option maxHeartbeats 400000 in
theorem cfX5_keep_old_L2 {E : VE} (C : Ctx E cX5_keep RX5 0 none) (hn : E.nL = 3) {a0 : Nat → Nat} {out : MT} : ∀ (n : Nat) (v2 : Int32) (S0 : MT), fX5_keep_old_L2 n v2 S0 = some out → V E (QR E none (wdM E.G a0 out)) (wdM E.G a0 S0) 2 [(0, .ref (a0 0)), (1, .ref (a0 10)), (2, .int v2)] [] := by
  intro n
  induction n with
  | zero =>
    intro v2 S0 h
    cases h
  | succ n ih =>
    intro v2 S0 h
    unfold fX5_keep_old_L2 at h
    refine V_pb C hn [(.iload_n 2, 1), (.bipush 10, 2)] (pc' := 5) (ls' := [(0, .ref (a0 0)), (1, .ref (a0 10)), (2, .int v2)]) (st' := [.int (10 : Int32), .int v2]) (decB_ok (by decide +kernel)) rfl rfl ?_
    refine V_ic_ge C (off := 42) (tgt := 47) (by decide +kernel) (by decide) h (fun _ h => ?_) (fun _ h => ?_)
    · refine V_pb C hn [(.iconst 0, 1), (.istore_n 2, 1)] (pc' := 49) (ls' := [(0, .ref (a0 0)), (1, .ref (a0 10)), (2, .int (0 : Int32))]) (st' := []) (decB_ok (by decide +kernel)) rfl rfl ?_
      refine V_sub (ls' := [(0, .ref (a0 0)), (1, .ref (a0 10)), (2, .int (0 : Int32))]) rfl ?_
      exact cfX5_keep_old_L49 C hn FU _ _ h
    · refine V_pb C hn [(.aload_n 1, 1), (.iload_n 2, 1), (.aload_n 0, 1)] (pc' := 11) (ls' := [(0, .ref (a0 0)), (1, .ref (a0 10)), (2, .int v2)]) (st' := [.ref (a0 0), .int v2, .ref (a0 10)]) (decB_ok (by decide +kernel)) rfl rfl ?_
      refine V_get C (v := .ref (a0 1)) (by decide +kernel) 0 2 fk_RX5_7 rfl rfl ?_
      refine V_pb C hn [(.iload_n 2, 1)] (pc' := 15) (ls' := [(0, .ref (a0 0)), (1, .ref (a0 10)), (2, .int v2)]) (st' := [.int v2, .ref (a0 1), .int v2, .ref (a0 10)]) (decB_ok (by decide +kernel)) rfl rfl ?_
      refine V_iald C (f := (m_kind S0)) (by decide +kernel) 1 rfl h (fun h => ?_)
      obtain ⟨x23, e24, h⟩ := bnd h
      refine V_topi e24 ?_
      obtain ⟨hb9, h⟩ := gd_some h
      obtain ⟨w25, e26, h⟩ := bnd h
      refine V_iast C (f := (m_old S0)) (ws' := wdM E.G a0 w25) (by decide +kernel) 10 rfl (o := some ()) (out := ()) (by rw [hb9]; rfl) (by cases e26; rfl) (fun _ => ?_)
      refine V_pb C hn [(.aload_n 1, 1), (.bipush 10, 2), (.iload_n 2, 1), (.iadd, 1), (.aload_n 0, 1)] (pc' := 23) (ls' := [(0, .ref (a0 0)), (1, .ref (a0 10)), (2, .int v2)]) (st' := [.ref (a0 0), .int ((10 : Int32) + v2), .ref (a0 10)]) (decB_ok (by decide +kernel)) rfl rfl ?_
      refine V_get C (v := .ref (a0 2)) (by decide +kernel) 0 3 fk_RX5_13 rfl rfl ?_
      refine V_pb C hn [(.iload_n 2, 1)] (pc' := 27) (ls' := [(0, .ref (a0 0)), (1, .ref (a0 10)), (2, .int v2)]) (st' := [.int v2, .ref (a0 2), .int ((10 : Int32) + v2), .ref (a0 10)]) (decB_ok (by decide +kernel)) rfl rfl ?_
      refine V_iald C (f := (m_own w25)) (by decide +kernel) 2 rfl h (fun h => ?_)
      obtain ⟨x27, e28, h⟩ := bnd h
      refine V_topi e28 ?_
      obtain ⟨x29, e30, h⟩ := bnd h
      refine V_top2 e30 ?_
      obtain ⟨hb9, h⟩ := gd_some h
      obtain ⟨w31, e32, h⟩ := bnd h
      refine V_iast C (f := (m_old w25)) (ws' := wdM E.G a0 w31) (by decide +kernel) 10 rfl (o := some ()) (out := ()) (by rw [hb9]; rfl) (by cases e32; rfl) (fun _ => ?_)
      refine V_pb C hn [(.aload_n 1, 1), (.bipush 20, 2), (.iload_n 2, 1), (.iadd, 1), (.aload_n 0, 1)] (pc' := 35) (ls' := [(0, .ref (a0 0)), (1, .ref (a0 10)), (2, .int v2)]) (st' := [.ref (a0 0), .int ((20 : Int32) + v2), .ref (a0 10)]) (decB_ok (by decide +kernel)) rfl rfl ?_
      refine V_get C (v := .ref (a0 3)) (by decide +kernel) 0 4 fk_RX5_16 rfl rfl ?_
      refine V_pb C hn [(.iload_n 2, 1)] (pc' := 39) (ls' := [(0, .ref (a0 0)), (1, .ref (a0 10)), (2, .int v2)]) (st' := [.int v2, .ref (a0 3), .int ((20 : Int32) + v2), .ref (a0 10)]) (decB_ok (by decide +kernel)) rfl rfl ?_
      refine V_iald C (f := (m_cell w31)) (by decide +kernel) 3 rfl h (fun h => ?_)
      obtain ⟨x33, e34, h⟩ := bnd h
      refine V_topi e34 ?_
      obtain ⟨x35, e36, h⟩ := bnd h
      refine V_top2 e36 ?_
      obtain ⟨hb9, h⟩ := gd_some h
      obtain ⟨w37, e38, h⟩ := bnd h
      refine V_iast C (f := (m_old w31)) (ws' := wdM E.G a0 w37) (by decide +kernel) 10 rfl (o := some ()) (out := ()) (by rw [hb9]; rfl) (by cases e38; rfl) (fun _ => ?_)
      refine V_pb C hn [(.iinc 2 1, 3)] (pc' := 44) (ls' := [(0, .ref (a0 0)), (1, .ref (a0 10)), (2, .int (v2 + (1 : Int32)))]) (st' := []) (decB_ok (by decide +kernel)) rfl rfl ?_
      refine V_goto C (off := -42) (tgt := 2) (by decide +kernel) (by decide) ?_
      refine V_sub (ls' := [(0, .ref (a0 0)), (1, .ref (a0 10)), (2, .int (v2 + (1 : Int32)))]) rfl ?_
      exact ih _ _ h
set_option maxRecDepth 100000 in
set_option maxHeartbeats 400000 in
theorem cfX5_keep_old {l : Launch} {G : GG} (a0 : Nat → Nat) {S0 : MT} {out : MT} (h : fX5_keep_old S0 = some out) : Con l G 0 yX5_keep cX5_keep 3 none [.ref (a0 0), .ref (a0 10)] (wdM G a0 S0) none (wdM G a0 out) := by
  refine Con_of (by decide +kernel) (Nat.le_of_ble_eq_true rfl) (fun E hl hG hn C => ?_)
  subst hl
  subst hG
  have C : Ctx E cX5_keep RX5 0 none := C
  show V E _ _ 0 [(0, .ref (a0 0)), (1, .ref (a0 10))] []
  unfold fX5_keep_old at h
  refine V_pb C hn [(.iconst 0, 1), (.istore_n 2, 1)] (pc' := 2) (ls' := [(0, .ref (a0 0)), (1, .ref (a0 10)), (2, .int (0 : Int32))]) (st' := []) (decB_ok (by decide +kernel)) rfl rfl ?_
  refine V_sub (ls' := [(0, .ref (a0 0)), (1, .ref (a0 10)), (2, .int (0 : Int32))]) rfl ?_
  exact cfX5_keep_old_L2 C hn FU _ _ h
set_option maxRecDepth 100000 in
set_option maxHeartbeats 400000 in
theorem cfX5_keep_ahead_j72 {E : VE} (C : Ctx E cX5_keep RX5 0 none) (hn : E.nL = 3) {a0 : Nat → Nat} {S0 : MT} {out : MT} (h : fX5_keep_ahead_j72 S0 = some out) : V E (QR E none (wdM E.G a0 out)) (wdM E.G a0 S0) 72 [(0, .ref (a0 0)), (1, .ref (a0 11))] [] := by
  unfold fX5_keep_ahead_j72 at h
  refine V_pb C hn [(.aload_n 1, 1), (.bipush 35, 2), (.aload_n 0, 1)] (pc' := 76) (ls' := [(0, .ref (a0 0)), (1, .ref (a0 11))]) (st' := [.ref (a0 0), .int (35 : Int32), .ref (a0 11)]) (decB_ok (by decide +kernel)) rfl rfl ?_
  refine V_get C (v := .int (m_n S0)) (by decide +kernel) 0 0 fk_RX5_53 rfl rfl ?_
  obtain ⟨x1, e2, h⟩ := bnd h
  refine V_top2 e2 ?_
  obtain ⟨hb9, h⟩ := gd_some h
  obtain ⟨w3, e4, h⟩ := bnd h
  refine V_iast C (f := (m_ahead S0)) (ws' := wdM E.G a0 w3) (by decide +kernel) 11 rfl (o := some ()) (out := ()) (by rw [hb9]; rfl) (by cases e4; rfl) (fun _ => ?_)
  refine V_pb C hn [(.aload_n 1, 1), (.bipush 36, 2), (.aload_n 0, 1)] (pc' := 84) (ls' := [(0, .ref (a0 0)), (1, .ref (a0 11))]) (st' := [.ref (a0 0), .int (36 : Int32), .ref (a0 11)]) (decB_ok (by decide +kernel)) rfl rfl ?_
  refine V_get C (v := .int (m_motes w3)) (by decide +kernel) 0 1 fk_RX5_60 rfl rfl ?_
  obtain ⟨x5, e6, h⟩ := bnd h
  refine V_top2 e6 ?_
  obtain ⟨hb9, h⟩ := gd_some h
  obtain ⟨w7, e8, h⟩ := bnd h
  refine V_iast C (f := (m_ahead w3)) (ws' := wdM E.G a0 w7) (by decide +kernel) 11 rfl (o := some ()) (out := ()) (by rw [hb9]; rfl) (by cases e8; rfl) (fun _ => ?_)
  refine V_pb C hn [(.aload_n 1, 1), (.bipush 37, 2), (.aload_n 0, 1)] (pc' := 92) (ls' := [(0, .ref (a0 0)), (1, .ref (a0 11))]) (st' := [.ref (a0 0), .int (37 : Int32), .ref (a0 11)]) (decB_ok (by decide +kernel)) rfl rfl ?_
  refine V_get C (v := .int (m_doors w7)) (by decide +kernel) 0 5 fk_RX5_109 rfl rfl ?_
  obtain ⟨x9, e10, h⟩ := bnd h
  refine V_top2 e10 ?_
  obtain ⟨hb9, h⟩ := gd_some h
  obtain ⟨w11, e12, h⟩ := bnd h
  refine V_iast C (f := (m_ahead w7)) (ws' := wdM E.G a0 w11) (by decide +kernel) 11 rfl (o := some ()) (out := ()) (by rw [hb9]; rfl) (by cases e12; rfl) (fun _ => ?_)
  refine V_pb C hn [(.aload_n 1, 1), (.bipush 38, 2), (.aload_n 0, 1)] (pc' := 100) (ls' := [(0, .ref (a0 0)), (1, .ref (a0 11))]) (st' := [.ref (a0 0), .int (38 : Int32), .ref (a0 11)]) (decB_ok (by decide +kernel)) rfl rfl ?_
  refine V_get C (v := .int (m_seed w11)) (by decide +kernel) 0 7 fk_RX5_57 rfl rfl ?_
  obtain ⟨x13, e14, h⟩ := bnd h
  refine V_top2 e14 ?_
  obtain ⟨hb9, h⟩ := gd_some h
  obtain ⟨w15, e16, h⟩ := bnd h
  refine V_iast C (f := (m_ahead w11)) (ws' := wdM E.G a0 w15) (by decide +kernel) 11 rfl (o := some ()) (out := ()) (by rw [hb9]; rfl) (by cases e16; rfl) (fun _ => ?_)
  have h := Option.some.inj h
  subst h
  exact V_vret C (by decide +kernel)
set_option maxRecDepth 100000 in
set_option maxHeartbeats 400000 in
theorem cfX5_keep_ahead_L49 {E : VE} (C : Ctx E cX5_keep RX5 0 none) (hn : E.nL = 3) {a0 : Nat → Nat} {out : MT} : ∀ (n : Nat) (v2 : Int32) (S0 : MT), fX5_keep_ahead_L49 n v2 S0 = some out → V E (QR E none (wdM E.G a0 out)) (wdM E.G a0 S0) 49 [(0, .ref (a0 0)), (1, .ref (a0 11)), (2, .int v2)] [] := by
  intro n
  induction n with
  | zero =>
    intro v2 S0 h
    cases h
  | succ n ih =>
    intro v2 S0 h
    unfold fX5_keep_ahead_L49 at h
    refine V_pb C hn [(.iload_n 2, 1), (.iconst 5, 1)] (pc' := 51) (ls' := [(0, .ref (a0 0)), (1, .ref (a0 11)), (2, .int v2)]) (st' := [.int (5 : Int32), .int v2]) (decB_ok (by decide +kernel)) rfl rfl ?_
    refine V_ic_ge C (off := 21) (tgt := 72) (by decide +kernel) (by decide) h (fun _ h => ?_) (fun _ h => ?_)
    · refine V_sub (ls' := [(0, .ref (a0 0)), (1, .ref (a0 11))]) rfl ?_
      exact cfX5_keep_ahead_j72 C hn h
    · refine V_pb C hn [(.aload_n 1, 1), (.bipush 30, 2), (.iload_n 2, 1), (.iadd, 1), (.aload_n 0, 1)] (pc' := 60) (ls' := [(0, .ref (a0 0)), (1, .ref (a0 11)), (2, .int v2)]) (st' := [.ref (a0 0), .int ((30 : Int32) + v2), .ref (a0 11)]) (decB_ok (by decide +kernel)) rfl rfl ?_
      refine V_get C (v := .ref (a0 4)) (by decide +kernel) 0 6 fk_RX5_19 rfl rfl ?_
      refine V_pb C hn [(.iload_n 2, 1)] (pc' := 64) (ls' := [(0, .ref (a0 0)), (1, .ref (a0 11)), (2, .int v2)]) (st' := [.int v2, .ref (a0 4), .int ((30 : Int32) + v2), .ref (a0 11)]) (decB_ok (by decide +kernel)) rfl rfl ?_
      refine V_iald C (f := (m_ways S0)) (by decide +kernel) 4 rfl h (fun h => ?_)
      obtain ⟨x17, e18, h⟩ := bnd h
      refine V_topi e18 ?_
      obtain ⟨x19, e20, h⟩ := bnd h
      refine V_top2 e20 ?_
      obtain ⟨hb9, h⟩ := gd_some h
      obtain ⟨w21, e22, h⟩ := bnd h
      refine V_iast C (f := (m_ahead S0)) (ws' := wdM E.G a0 w21) (by decide +kernel) 11 rfl (o := some ()) (out := ()) (by rw [hb9]; rfl) (by cases e22; rfl) (fun _ => ?_)
      refine V_pb C hn [(.iinc 2 1, 3)] (pc' := 69) (ls' := [(0, .ref (a0 0)), (1, .ref (a0 11)), (2, .int (v2 + (1 : Int32)))]) (st' := []) (decB_ok (by decide +kernel)) rfl rfl ?_
      refine V_goto C (off := -20) (tgt := 49) (by decide +kernel) (by decide) ?_
      refine V_sub (ls' := [(0, .ref (a0 0)), (1, .ref (a0 11)), (2, .int (v2 + (1 : Int32)))]) rfl ?_
      exact ih _ _ h
set_option maxRecDepth 100000 in
set_option maxHeartbeats 400000 in
theorem cfX5_keep_ahead_L2 {E : VE} (C : Ctx E cX5_keep RX5 0 none) (hn : E.nL = 3) {a0 : Nat → Nat} {out : MT} : ∀ (n : Nat) (v2 : Int32) (S0 : MT), fX5_keep_ahead_L2 n v2 S0 = some out → V E (QR E none (wdM E.G a0 out)) (wdM E.G a0 S0) 2 [(0, .ref (a0 0)), (1, .ref (a0 11)), (2, .int v2)] [] := by
  intro n
  induction n with
  | zero =>
    intro v2 S0 h
    cases h
  | succ n ih =>
    intro v2 S0 h
    unfold fX5_keep_ahead_L2 at h
    refine V_pb C hn [(.iload_n 2, 1), (.bipush 10, 2)] (pc' := 5) (ls' := [(0, .ref (a0 0)), (1, .ref (a0 11)), (2, .int v2)]) (st' := [.int (10 : Int32), .int v2]) (decB_ok (by decide +kernel)) rfl rfl ?_
    refine V_ic_ge C (off := 42) (tgt := 47) (by decide +kernel) (by decide) h (fun _ h => ?_) (fun _ h => ?_)
    · refine V_pb C hn [(.iconst 0, 1), (.istore_n 2, 1)] (pc' := 49) (ls' := [(0, .ref (a0 0)), (1, .ref (a0 11)), (2, .int (0 : Int32))]) (st' := []) (decB_ok (by decide +kernel)) rfl rfl ?_
      refine V_sub (ls' := [(0, .ref (a0 0)), (1, .ref (a0 11)), (2, .int (0 : Int32))]) rfl ?_
      exact cfX5_keep_ahead_L49 C hn FU _ _ h
    · refine V_pb C hn [(.aload_n 1, 1), (.iload_n 2, 1), (.aload_n 0, 1)] (pc' := 11) (ls' := [(0, .ref (a0 0)), (1, .ref (a0 11)), (2, .int v2)]) (st' := [.ref (a0 0), .int v2, .ref (a0 11)]) (decB_ok (by decide +kernel)) rfl rfl ?_
      refine V_get C (v := .ref (a0 1)) (by decide +kernel) 0 2 fk_RX5_7 rfl rfl ?_
      refine V_pb C hn [(.iload_n 2, 1)] (pc' := 15) (ls' := [(0, .ref (a0 0)), (1, .ref (a0 11)), (2, .int v2)]) (st' := [.int v2, .ref (a0 1), .int v2, .ref (a0 11)]) (decB_ok (by decide +kernel)) rfl rfl ?_
      refine V_iald C (f := (m_kind S0)) (by decide +kernel) 1 rfl h (fun h => ?_)
      obtain ⟨x23, e24, h⟩ := bnd h
      refine V_topi e24 ?_
      obtain ⟨hb9, h⟩ := gd_some h
      obtain ⟨w25, e26, h⟩ := bnd h
      refine V_iast C (f := (m_ahead S0)) (ws' := wdM E.G a0 w25) (by decide +kernel) 11 rfl (o := some ()) (out := ()) (by rw [hb9]; rfl) (by cases e26; rfl) (fun _ => ?_)
      refine V_pb C hn [(.aload_n 1, 1), (.bipush 10, 2), (.iload_n 2, 1), (.iadd, 1), (.aload_n 0, 1)] (pc' := 23) (ls' := [(0, .ref (a0 0)), (1, .ref (a0 11)), (2, .int v2)]) (st' := [.ref (a0 0), .int ((10 : Int32) + v2), .ref (a0 11)]) (decB_ok (by decide +kernel)) rfl rfl ?_
      refine V_get C (v := .ref (a0 2)) (by decide +kernel) 0 3 fk_RX5_13 rfl rfl ?_
      refine V_pb C hn [(.iload_n 2, 1)] (pc' := 27) (ls' := [(0, .ref (a0 0)), (1, .ref (a0 11)), (2, .int v2)]) (st' := [.int v2, .ref (a0 2), .int ((10 : Int32) + v2), .ref (a0 11)]) (decB_ok (by decide +kernel)) rfl rfl ?_
      refine V_iald C (f := (m_own w25)) (by decide +kernel) 2 rfl h (fun h => ?_)
      obtain ⟨x27, e28, h⟩ := bnd h
      refine V_topi e28 ?_
      obtain ⟨x29, e30, h⟩ := bnd h
      refine V_top2 e30 ?_
      obtain ⟨hb9, h⟩ := gd_some h
      obtain ⟨w31, e32, h⟩ := bnd h
      refine V_iast C (f := (m_ahead w25)) (ws' := wdM E.G a0 w31) (by decide +kernel) 11 rfl (o := some ()) (out := ()) (by rw [hb9]; rfl) (by cases e32; rfl) (fun _ => ?_)
      refine V_pb C hn [(.aload_n 1, 1), (.bipush 20, 2), (.iload_n 2, 1), (.iadd, 1), (.aload_n 0, 1)] (pc' := 35) (ls' := [(0, .ref (a0 0)), (1, .ref (a0 11)), (2, .int v2)]) (st' := [.ref (a0 0), .int ((20 : Int32) + v2), .ref (a0 11)]) (decB_ok (by decide +kernel)) rfl rfl ?_
      refine V_get C (v := .ref (a0 3)) (by decide +kernel) 0 4 fk_RX5_16 rfl rfl ?_
      refine V_pb C hn [(.iload_n 2, 1)] (pc' := 39) (ls' := [(0, .ref (a0 0)), (1, .ref (a0 11)), (2, .int v2)]) (st' := [.int v2, .ref (a0 3), .int ((20 : Int32) + v2), .ref (a0 11)]) (decB_ok (by decide +kernel)) rfl rfl ?_
      refine V_iald C (f := (m_cell w31)) (by decide +kernel) 3 rfl h (fun h => ?_)
      obtain ⟨x33, e34, h⟩ := bnd h
      refine V_topi e34 ?_
      obtain ⟨x35, e36, h⟩ := bnd h
      refine V_top2 e36 ?_
      obtain ⟨hb9, h⟩ := gd_some h
      obtain ⟨w37, e38, h⟩ := bnd h
      refine V_iast C (f := (m_ahead w31)) (ws' := wdM E.G a0 w37) (by decide +kernel) 11 rfl (o := some ()) (out := ()) (by rw [hb9]; rfl) (by cases e38; rfl) (fun _ => ?_)
      refine V_pb C hn [(.iinc 2 1, 3)] (pc' := 44) (ls' := [(0, .ref (a0 0)), (1, .ref (a0 11)), (2, .int (v2 + (1 : Int32)))]) (st' := []) (decB_ok (by decide +kernel)) rfl rfl ?_
      refine V_goto C (off := -42) (tgt := 2) (by decide +kernel) (by decide) ?_
      refine V_sub (ls' := [(0, .ref (a0 0)), (1, .ref (a0 11)), (2, .int (v2 + (1 : Int32)))]) rfl ?_
      exact ih _ _ h
set_option maxRecDepth 100000 in
set_option maxHeartbeats 400000 in
theorem cfX5_keep_ahead {l : Launch} {G : GG} (a0 : Nat → Nat) {S0 : MT} {out : MT} (h : fX5_keep_ahead S0 = some out) : Con l G 0 yX5_keep cX5_keep 3 none [.ref (a0 0), .ref (a0 11)] (wdM G a0 S0) none (wdM G a0 out) := by
  refine Con_of (by decide +kernel) (Nat.le_of_ble_eq_true rfl) (fun E hl hG hn C => ?_)
  subst hl
  subst hG
  have C : Ctx E cX5_keep RX5 0 none := C
  show V E _ _ 0 [(0, .ref (a0 0)), (1, .ref (a0 11))] []
  unfold fX5_keep_ahead at h
  refine V_pb C hn [(.iconst 0, 1), (.istore_n 2, 1)] (pc' := 2) (ls' := [(0, .ref (a0 0)), (1, .ref (a0 11)), (2, .int (0 : Int32))]) (st' := []) (decB_ok (by decide +kernel)) rfl rfl ?_
  refine V_sub (ls' := [(0, .ref (a0 0)), (1, .ref (a0 11)), (2, .int (0 : Int32))]) rfl ?_
  exact cfX5_keep_ahead_L2 C hn FU _ _ h
set_option maxRecDepth 100000 in
set_option maxHeartbeats 400000 in
theorem cfX5_isLetter {l : Launch} {G : GG} {p0 : Int32} {out : Int32} (h : fX5_isLetter p0 = some out) : Con l G 0 yX5_isLetter cX5_isLetter 1 (some .boolean) [.int p0] (([] : va_W)) (some (.int out)) (([] : va_W)) := by
  refine Con_of (by decide +kernel) (Nat.le_of_ble_eq_true rfl) (fun E hl hG hn C => ?_)
  subst hl
  subst hG
  have C : Ctx E cX5_isLetter RX5 0 (some .boolean) := C
  show V E _ _ 0 [(0, .int p0)] []
  unfold fX5_isLetter at h
  refine V_pb C hn [(.iload_n 0, 1), (.bipush 97, 2)] (pc' := 3) (ls' := [(0, .int p0)]) (st' := [.int (97 : Int32), .int p0]) (decB_ok (by decide +kernel)) rfl rfl ?_
  refine V_ic_lt C (off := 13) (tgt := 16) (by decide +kernel) (by decide) h (fun _ h => ?_) (fun _ h => ?_)
  · refine V_pb C hn [(.iconst 0, 1)] (pc' := 17) (ls' := [(0, .int p0)]) (st' := [.int (0 : Int32)]) (decB_ok (by decide +kernel)) rfl rfl ?_
    have h := Option.some.inj h
    subst h
    exact V_iret C (v := (0 : Int32)) (by decide +kernel) nb0
  · refine V_pb C hn [(.iload_n 0, 1), (.bipush 122, 2)] (pc' := 9) (ls' := [(0, .int p0)]) (st' := [.int (122 : Int32), .int p0]) (decB_ok (by decide +kernel)) rfl rfl ?_
    refine V_ic_gt C (off := 7) (tgt := 16) (by decide +kernel) (by decide) h (fun _ h => ?_) (fun _ h => ?_)
    · refine V_pb C hn [(.iconst 0, 1)] (pc' := 17) (ls' := [(0, .int p0)]) (st' := [.int (0 : Int32)]) (decB_ok (by decide +kernel)) rfl rfl ?_
      have h := Option.some.inj h
      subst h
      exact V_iret C (v := (0 : Int32)) (by decide +kernel) nb0
    · refine V_pb C hn [(.iconst 1, 1)] (pc' := 13) (ls' := [(0, .int p0)]) (st' := [.int (1 : Int32)]) (decB_ok (by decide +kernel)) rfl rfl ?_
      refine V_goto C (off := 4) (tgt := 17) (by decide +kernel) (by decide) ?_
      have h := Option.some.inj h
      subst h
      exact V_iret C (v := (1 : Int32)) (by decide +kernel) nb1
set_option maxRecDepth 100000 in
set_option maxHeartbeats 400000 in
theorem cfX5_isDigit {l : Launch} {G : GG} {p0 : Int32} {out : Int32} (h : fX5_isDigit p0 = some out) : Con l G 0 yX5_isDigit cX5_isDigit 1 (some .boolean) [.int p0] (([] : va_W)) (some (.int out)) (([] : va_W)) := by
  refine Con_of (by decide +kernel) (Nat.le_of_ble_eq_true rfl) (fun E hl hG hn C => ?_)
  subst hl
  subst hG
  have C : Ctx E cX5_isDigit RX5 0 (some .boolean) := C
  show V E _ _ 0 [(0, .int p0)] []
  unfold fX5_isDigit at h
  refine V_pb C hn [(.iload_n 0, 1), (.bipush 48, 2)] (pc' := 3) (ls' := [(0, .int p0)]) (st' := [.int (48 : Int32), .int p0]) (decB_ok (by decide +kernel)) rfl rfl ?_
  refine V_ic_lt C (off := 13) (tgt := 16) (by decide +kernel) (by decide) h (fun _ h => ?_) (fun _ h => ?_)
  · refine V_pb C hn [(.iconst 0, 1)] (pc' := 17) (ls' := [(0, .int p0)]) (st' := [.int (0 : Int32)]) (decB_ok (by decide +kernel)) rfl rfl ?_
    have h := Option.some.inj h
    subst h
    exact V_iret C (v := (0 : Int32)) (by decide +kernel) nb0
  · refine V_pb C hn [(.iload_n 0, 1), (.bipush 57, 2)] (pc' := 9) (ls' := [(0, .int p0)]) (st' := [.int (57 : Int32), .int p0]) (decB_ok (by decide +kernel)) rfl rfl ?_
    refine V_ic_gt C (off := 7) (tgt := 16) (by decide +kernel) (by decide) h (fun _ h => ?_) (fun _ h => ?_)
    · refine V_pb C hn [(.iconst 0, 1)] (pc' := 17) (ls' := [(0, .int p0)]) (st' := [.int (0 : Int32)]) (decB_ok (by decide +kernel)) rfl rfl ?_
      have h := Option.some.inj h
      subst h
      exact V_iret C (v := (0 : Int32)) (by decide +kernel) nb0
    · refine V_pb C hn [(.iconst 1, 1)] (pc' := 13) (ls' := [(0, .int p0)]) (st' := [.int (1 : Int32)]) (decB_ok (by decide +kernel)) rfl rfl ?_
      refine V_goto C (off := 4) (tgt := 17) (by decide +kernel) (by decide) ?_
      have h := Option.some.inj h
      subst h
      exact V_iret C (v := (1 : Int32)) (by decide +kernel) nb1
set_option maxRecDepth 100000 in
set_option maxHeartbeats 400000 in
theorem cfX5_next_j276 {E : VE} (C : Ctx E cX5_next RX5 1 none) (hn : E.nL = 2) {a0 : Nat → Nat} {s0 : Int32} {S0 : MT} {out : MT} (h : fX5_next_j276 s0 S0 = some out) : V E (QR E none (wdM E.G a0 out)) (wdM E.G a0 S0) 276 [] [.int s0, .ref (a0 0)] := by
  unfold fX5_next_j276 at h
  obtain ⟨w17, e18, h⟩ := bnd h
  refine V_put C (v := .int s0) (ws' := wdM E.G a0 w17) (by decide +kernel) 0 12 pk_RX5_128 rfl rfl rfl (Nat.le_of_ble_eq_true rfl) (by cases e18; rfl) ?_
  have h := Option.some.inj h
  subst h
  exact V_vret C (by decide +kernel)
set_option maxRecDepth 100000 in
set_option maxHeartbeats 400000 in
theorem cfX5_next_j256 {E : VE} (C : Ctx E cX5_next RX5 1 none) (hn : E.nL = 2) {a0 : Nat → Nat} {s0 : Int32} {S0 : MT} {out : MT} (h : fX5_next_j256 s0 S0 = some out) : V E (QR E none (wdM E.G a0 out)) (wdM E.G a0 S0) 256 [] [.int s0, .ref (a0 0)] := by
  unfold fX5_next_j256 at h
  obtain ⟨w23, e24, h⟩ := bnd h
  refine V_put C (v := .int s0) (ws' := wdM E.G a0 w23) (by decide +kernel) 0 12 pk_RX5_128 rfl rfl rfl (Nat.le_of_ble_eq_true rfl) (by cases e24; rfl) ?_
  refine V_goto C (off := 20) (tgt := 279) (by decide +kernel) (by decide) ?_
  have h := Option.some.inj h
  subst h
  exact V_vret C (by decide +kernel)
set_option maxRecDepth 100000 in
set_option maxHeartbeats 400000 in
theorem cfX5_next_j235 {E : VE} (C : Ctx E cX5_next RX5 1 none) (hn : E.nL = 2) {a0 : Nat → Nat} {S0 : MT} {out : MT} (h : fX5_next_j235 S0 = some out) : V E (QR E none (wdM E.G a0 out)) (wdM E.G a0 S0) 235 [(0, .ref (a0 0))] [] := by
  unfold fX5_next_j235 at h
  refine V_pb C hn [(.aload_n 0, 1), (.aload_n 0, 1)] (pc' := 237) (ls' := [(0, .ref (a0 0))]) (st' := [.ref (a0 0), .ref (a0 0)]) (decB_ok (by decide +kernel)) rfl rfl ?_
  refine V_get C (v := .int (m_to S0)) (by decide +kernel) 0 11 fk_RX5_122 rfl rfl ?_
  refine V_pb C hn [(.aload_n 0, 1)] (pc' := 241) (ls' := [(0, .ref (a0 0))]) (st' := [.ref (a0 0), .int (m_to S0), .ref (a0 0)]) (decB_ok (by decide +kernel)) rfl rfl ?_
  refine V_get C (v := .int (m_from S0)) (by decide +kernel) 0 10 fk_RX5_125 rfl rfl ?_
  refine V_pb C hn [(.isub, 1), (.iconst 3, 1)] (pc' := 246) (ls' := [(0, .ref (a0 0))]) (st' := [.int (3 : Int32), .int ((m_to S0) - (m_from S0)), .ref (a0 0)]) (decB_ok (by decide +kernel)) rfl rfl ?_
  refine V_ic_le C (off := 8) (tgt := 254) (by decide +kernel) (by decide) h (fun _ h => ?_) (fun _ h => ?_)
  · refine V_pb C hn [(.bipush 48, 2)] (pc' := 256) (ls' := [(0, .ref (a0 0))]) (st' := [.int (48 : Int32), .ref (a0 0)]) (decB_ok (by decide +kernel)) rfl rfl ?_
    refine V_sub (ls' := []) rfl ?_
    exact cfX5_next_j256 C hn h
  · refine V_pb C hn [(.bipush 120, 2)] (pc' := 251) (ls' := [(0, .ref (a0 0))]) (st' := [.int (120 : Int32), .ref (a0 0)]) (decB_ok (by decide +kernel)) rfl rfl ?_
    refine V_goto C (off := 5) (tgt := 256) (by decide +kernel) (by decide) ?_
    refine V_sub (ls' := []) rfl ?_
    exact cfX5_next_j256 C hn h
set_option maxRecDepth 100000 in
set_option maxHeartbeats 400000 in
theorem cfX5_next_j222 {E : VE} (C : Ctx E cX5_next RX5 1 none) (hn : E.nL = 2) {a0 : Nat → Nat} {S0 : MT} {out : MT} {k159 : MT → Option (MT)} (hk159 : ∀ (S0 : MT), k159 S0 = some out → V E (QR E none (wdM E.G a0 out)) (wdM E.G a0 S0) 159 [(0, .ref (a0 0))] []) (h : fX5_next_j222 k159 S0 = some out) : V E (QR E none (wdM E.G a0 out)) (wdM E.G a0 S0) 222 [(0, .ref (a0 0))] [] := by
  unfold fX5_next_j222 at h
  refine V_pb C hn [(.aload_n 0, 1), (.dup, 1)] (pc' := 224) (ls' := [(0, .ref (a0 0))]) (st' := [.ref (a0 0), .ref (a0 0)]) (decB_ok (by decide +kernel)) rfl rfl ?_
  refine V_get C (v := .int (m_to S0)) (by decide +kernel) 0 11 fk_RX5_122 rfl rfl ?_
  refine V_pb C hn [(.iconst 1, 1), (.iadd, 1)] (pc' := 229) (ls' := [(0, .ref (a0 0))]) (st' := [.int ((m_to S0) + (1 : Int32)), .ref (a0 0)]) (decB_ok (by decide +kernel)) rfl rfl ?_
  obtain ⟨x27, e28, h⟩ := bnd h
  refine V_topi e28 ?_
  obtain ⟨w29, e30, h⟩ := bnd h
  refine V_put C (v := .int x27) (ws' := wdM E.G a0 w29) (by decide +kernel) 0 11 pk_RX5_122 rfl rfl rfl (Nat.le_of_ble_eq_true rfl) (by cases e30; rfl) ?_
  refine V_goto C (off := -73) (tgt := 159) (by decide +kernel) (by decide) ?_
  refine V_sub (ls' := [(0, .ref (a0 0))]) rfl ?_
  exact hk159 _ h
set_option maxRecDepth 100000 in
set_option maxHeartbeats 400000 in
theorem cfX5_next_L159 {E : VE} (C : Ctx E cX5_next RX5 1 none) (hn : E.nL = 2) {a0 : Nat → Nat} {out : MT} : ∀ (n : Nat) (S0 : MT), fX5_next_L159 n S0 = some out → V E (QR E none (wdM E.G a0 out)) (wdM E.G a0 S0) 159 [(0, .ref (a0 0))] [] := by
  intro n
  induction n with
  | zero =>
    intro S0 h
    cases h
  | succ n ih =>
    intro S0 h
    unfold fX5_next_L159 at h
    refine V_pb C hn [(.aload_n 0, 1)] (pc' := 160) (ls' := [(0, .ref (a0 0))]) (st' := [.ref (a0 0)]) (decB_ok (by decide +kernel)) rfl rfl ?_
    refine V_get C (v := .int (m_to S0)) (by decide +kernel) 0 11 fk_RX5_122 rfl rfl ?_
    refine V_pb C hn [(.aload_n 0, 1)] (pc' := 164) (ls' := [(0, .ref (a0 0))]) (st' := [.ref (a0 0), .int (m_to S0)]) (decB_ok (by decide +kernel)) rfl rfl ?_
    refine V_get C (v := .int (m_taped S0)) (by decide +kernel) 0 8 fk_RX5_119 rfl rfl ?_
    refine V_ic_ge C (off := 68) (tgt := 235) (by decide +kernel) (by decide) h (fun _ h => ?_) (fun _ h => ?_)
    · refine V_sub (ls' := [(0, .ref (a0 0))]) rfl ?_
      exact cfX5_next_j235 C hn h
    · refine V_pb C hn [(.aload_n 0, 1)] (pc' := 171) (ls' := [(0, .ref (a0 0))]) (st' := [.ref (a0 0)]) (decB_ok (by decide +kernel)) rfl rfl ?_
      refine V_get C (v := .ref (a0 5)) (by decide +kernel) 0 9 fk_RX5_22 rfl rfl ?_
      refine V_pb C hn [(.aload_n 0, 1)] (pc' := 175) (ls' := [(0, .ref (a0 0))]) (st' := [.ref (a0 0), .ref (a0 5)]) (decB_ok (by decide +kernel)) rfl rfl ?_
      refine V_get C (v := .int (m_to S0)) (by decide +kernel) 0 11 fk_RX5_122 rfl rfl ?_
      refine V_iald C (f := (m_tape S0)) (by decide +kernel) 5 rfl h (fun h => ?_)
      obtain ⟨q25, h26, h⟩ := bnd h
      refine V_callSp C (As := [.int ((m_tape S0) (ix (m_to S0)))]) (rest := []) (by decide +kernel) ok_yX5_isDigit mk_RX5_134 (cfX5_isDigit (l := E.l) (G := E.G) h26) [] rfl rfl rfl rfl (Nat.le_of_ble_eq_true rfl) (Nat.le_of_ble_eq_true rfl) (Nat.le_of_ble_eq_true rfl) ?_
      show V E _ (wdM E.G a0 S0) 182 [(0, .ref (a0 0))] [.int q25]
      refine V_if_eq C (off := 53) (tgt := 235) (by decide +kernel) (by decide) h (fun _ h => ?_) (fun _ h => ?_)
      · refine V_sub (ls' := [(0, .ref (a0 0))]) rfl ?_
        exact cfX5_next_j235 C hn h
      · refine V_pb C hn [(.aload_n 0, 1)] (pc' := 186) (ls' := [(0, .ref (a0 0))]) (st' := [.ref (a0 0)]) (decB_ok (by decide +kernel)) rfl rfl ?_
        refine V_get C (v := .int (m_to S0)) (by decide +kernel) 0 11 fk_RX5_122 rfl rfl ?_
        refine V_pb C hn [(.aload_n 0, 1)] (pc' := 190) (ls' := [(0, .ref (a0 0))]) (st' := [.ref (a0 0), .int (m_to S0)]) (decB_ok (by decide +kernel)) rfl rfl ?_
        refine V_get C (v := .int (m_from S0)) (by decide +kernel) 0 10 fk_RX5_125 rfl rfl ?_
        refine V_pb C hn [(.isub, 1), (.iconst 3, 1)] (pc' := 195) (ls' := [(0, .ref (a0 0))]) (st' := [.int (3 : Int32), .int ((m_to S0) - (m_from S0))]) (decB_ok (by decide +kernel)) rfl rfl ?_
        refine V_ic_ge C (off := 27) (tgt := 222) (by decide +kernel) (by decide) h (fun _ h => ?_) (fun _ h => ?_)
        · refine V_sub (ls' := [(0, .ref (a0 0))]) rfl ?_
          exact cfX5_next_j222 C hn (k159 := (fun S0 => fX5_next_L159 n S0)) (fun S0 h => ih S0 h) h
        · refine V_pb C hn [(.aload_n 0, 1), (.bipush 10, 2), (.aload_n 0, 1)] (pc' := 202) (ls' := [(0, .ref (a0 0))]) (st' := [.ref (a0 0), .int (10 : Int32), .ref (a0 0)]) (decB_ok (by decide +kernel)) rfl rfl ?_
          refine V_get C (v := .int (m_value S0)) (by decide +kernel) 0 13 fk_RX5_137 rfl rfl ?_
          refine V_pb C hn [(.imul, 1), (.aload_n 0, 1)] (pc' := 207) (ls' := [(0, .ref (a0 0))]) (st' := [.ref (a0 0), .int ((10 : Int32) * (m_value S0)), .ref (a0 0)]) (decB_ok (by decide +kernel)) rfl rfl ?_
          refine V_get C (v := .ref (a0 5)) (by decide +kernel) 0 9 fk_RX5_22 rfl rfl ?_
          refine V_pb C hn [(.aload_n 0, 1)] (pc' := 211) (ls' := [(0, .ref (a0 0))]) (st' := [.ref (a0 0), .ref (a0 5), .int ((10 : Int32) * (m_value S0)), .ref (a0 0)]) (decB_ok (by decide +kernel)) rfl rfl ?_
          refine V_get C (v := .int (m_to S0)) (by decide +kernel) 0 11 fk_RX5_122 rfl rfl ?_
          refine V_iald C (f := (m_tape S0)) (by decide +kernel) 5 rfl h (fun h => ?_)
          refine V_pb C hn [(.iadd, 1), (.bipush 48, 2), (.isub, 1)] (pc' := 219) (ls' := [(0, .ref (a0 0))]) (st' := [.int ((((10 : Int32) * (m_value S0)) + ((m_tape S0) (ix (m_to S0)))) - (48 : Int32)), .ref (a0 0)]) (decB_ok (by decide +kernel)) rfl rfl ?_
          obtain ⟨x31, e32, h⟩ := bnd h
          refine V_topi e32 ?_
          obtain ⟨w33, e34, h⟩ := bnd h
          refine V_put C (v := .int x31) (ws' := wdM E.G a0 w33) (by decide +kernel) 0 13 pk_RX5_137 rfl rfl rfl (Nat.le_of_ble_eq_true rfl) (by cases e34; rfl) ?_
          refine V_sub (ls' := [(0, .ref (a0 0))]) rfl ?_
          exact cfX5_next_j222 C hn (k159 := (fun S0 => fX5_next_L159 n S0)) (fun S0 h => ih S0 h) h
set_option maxRecDepth 100000 in
set_option maxHeartbeats 400000 in
theorem cfX5_next_j135 {E : VE} (C : Ctx E cX5_next RX5 1 none) (hn : E.nL = 2) {a0 : Nat → Nat} {S0 : MT} {out : MT} (h : fX5_next_j135 S0 = some out) : V E (QR E none (wdM E.G a0 out)) (wdM E.G a0 S0) 135 [(0, .ref (a0 0))] [] := by
  unfold fX5_next_j135 at h
  refine V_pb C hn [(.aload_n 0, 1), (.bipush 119, 2)] (pc' := 138) (ls' := [(0, .ref (a0 0))]) (st' := [.int (119 : Int32), .ref (a0 0)]) (decB_ok (by decide +kernel)) rfl rfl ?_
  obtain ⟨x35, e36, h⟩ := bnd h
  refine V_topi e36 ?_
  obtain ⟨w37, e38, h⟩ := bnd h
  refine V_put C (v := .int x35) (ws' := wdM E.G a0 w37) (by decide +kernel) 0 12 pk_RX5_128 rfl rfl rfl (Nat.le_of_ble_eq_true rfl) (by cases e38; rfl) ?_
  refine V_goto C (off := 138) (tgt := 279) (by decide +kernel) (by decide) ?_
  have h := Option.some.inj h
  subst h
  exact V_vret C (by decide +kernel)
set_option maxRecDepth 100000 in
set_option maxHeartbeats 400000 in
theorem cfX5_next_L96 {E : VE} (C : Ctx E cX5_next RX5 1 none) (hn : E.nL = 2) {a0 : Nat → Nat} {out : MT} : ∀ (n : Nat) (S0 : MT), fX5_next_L96 n S0 = some out → V E (QR E none (wdM E.G a0 out)) (wdM E.G a0 S0) 96 [(0, .ref (a0 0))] [] := by
  intro n
  induction n with
  | zero =>
    intro S0 h
    cases h
  | succ n ih =>
    intro S0 h
    unfold fX5_next_L96 at h
    refine V_pb C hn [(.aload_n 0, 1)] (pc' := 97) (ls' := [(0, .ref (a0 0))]) (st' := [.ref (a0 0)]) (decB_ok (by decide +kernel)) rfl rfl ?_
    refine V_get C (v := .int (m_to S0)) (by decide +kernel) 0 11 fk_RX5_122 rfl rfl ?_
    refine V_pb C hn [(.aload_n 0, 1)] (pc' := 101) (ls' := [(0, .ref (a0 0))]) (st' := [.ref (a0 0), .int (m_to S0)]) (decB_ok (by decide +kernel)) rfl rfl ?_
    refine V_get C (v := .int (m_taped S0)) (by decide +kernel) 0 8 fk_RX5_119 rfl rfl ?_
    refine V_ic_ge C (off := 31) (tgt := 135) (by decide +kernel) (by decide) h (fun _ h => ?_) (fun _ h => ?_)
    · refine V_sub (ls' := [(0, .ref (a0 0))]) rfl ?_
      exact cfX5_next_j135 C hn h
    · refine V_pb C hn [(.aload_n 0, 1)] (pc' := 108) (ls' := [(0, .ref (a0 0))]) (st' := [.ref (a0 0)]) (decB_ok (by decide +kernel)) rfl rfl ?_
      refine V_get C (v := .ref (a0 5)) (by decide +kernel) 0 9 fk_RX5_22 rfl rfl ?_
      refine V_pb C hn [(.aload_n 0, 1)] (pc' := 112) (ls' := [(0, .ref (a0 0))]) (st' := [.ref (a0 0), .ref (a0 5)]) (decB_ok (by decide +kernel)) rfl rfl ?_
      refine V_get C (v := .int (m_to S0)) (by decide +kernel) 0 11 fk_RX5_122 rfl rfl ?_
      refine V_iald C (f := (m_tape S0)) (by decide +kernel) 5 rfl h (fun h => ?_)
      obtain ⟨q39, h40, h⟩ := bnd h
      refine V_callSp C (As := [.int ((m_tape S0) (ix (m_to S0)))]) (rest := []) (by decide +kernel) ok_yX5_isLetter mk_RX5_131 (cfX5_isLetter (l := E.l) (G := E.G) h40) [] rfl rfl rfl rfl (Nat.le_of_ble_eq_true rfl) (Nat.le_of_ble_eq_true rfl) (Nat.le_of_ble_eq_true rfl) ?_
      show V E _ (wdM E.G a0 S0) 119 [(0, .ref (a0 0))] [.int q39]
      refine V_if_eq C (off := 16) (tgt := 135) (by decide +kernel) (by decide) h (fun _ h => ?_) (fun _ h => ?_)
      · refine V_sub (ls' := [(0, .ref (a0 0))]) rfl ?_
        exact cfX5_next_j135 C hn h
      · refine V_pb C hn [(.aload_n 0, 1), (.dup, 1)] (pc' := 124) (ls' := [(0, .ref (a0 0))]) (st' := [.ref (a0 0), .ref (a0 0)]) (decB_ok (by decide +kernel)) rfl rfl ?_
        refine V_get C (v := .int (m_to S0)) (by decide +kernel) 0 11 fk_RX5_122 rfl rfl ?_
        refine V_pb C hn [(.iconst 1, 1), (.iadd, 1)] (pc' := 129) (ls' := [(0, .ref (a0 0))]) (st' := [.int ((m_to S0) + (1 : Int32)), .ref (a0 0)]) (decB_ok (by decide +kernel)) rfl rfl ?_
        obtain ⟨x41, e42, h⟩ := bnd h
        refine V_topi e42 ?_
        obtain ⟨w43, e44, h⟩ := bnd h
        refine V_put C (v := .int x41) (ws' := wdM E.G a0 w43) (by decide +kernel) 0 11 pk_RX5_122 rfl rfl rfl (Nat.le_of_ble_eq_true rfl) (by cases e44; rfl) ?_
        refine V_goto C (off := -36) (tgt := 96) (by decide +kernel) (by decide) ?_
        refine V_sub (ls' := [(0, .ref (a0 0))]) rfl ?_
        exact ih _ h
set_option maxRecDepth 100000 in
set_option maxHeartbeats 400000 in
theorem cfX5_next_j46 {E : VE} (C : Ctx E cX5_next RX5 1 none) (hn : E.nL = 2) {a0 : Nat → Nat} {S0 : MT} {out : MT} (h : fX5_next_j46 S0 = some out) : V E (QR E none (wdM E.G a0 out)) (wdM E.G a0 S0) 46 [(0, .ref (a0 0))] [] := by
  unfold fX5_next_j46 at h
  refine V_pb C hn [(.aload_n 0, 1), (.aload_n 0, 1)] (pc' := 48) (ls' := [(0, .ref (a0 0))]) (st' := [.ref (a0 0), .ref (a0 0)]) (decB_ok (by decide +kernel)) rfl rfl ?_
  refine V_get C (v := .int (m_from S0)) (by decide +kernel) 0 10 fk_RX5_125 rfl rfl ?_
  obtain ⟨w3, e4, h⟩ := bnd h
  refine V_put C (v := .int (m_from S0)) (ws' := wdM E.G a0 w3) (by decide +kernel) 0 11 pk_RX5_122 rfl rfl rfl (Nat.le_of_ble_eq_true rfl) (by cases e4; rfl) ?_
  refine V_pb C hn [(.aload_n 0, 1)] (pc' := 55) (ls' := [(0, .ref (a0 0))]) (st' := [.ref (a0 0)]) (decB_ok (by decide +kernel)) rfl rfl ?_
  refine V_get C (v := .int (m_from w3)) (by decide +kernel) 0 10 fk_RX5_125 rfl rfl ?_
  refine V_pb C hn [(.aload_n 0, 1)] (pc' := 59) (ls' := [(0, .ref (a0 0))]) (st' := [.ref (a0 0), .int (m_from w3)]) (decB_ok (by decide +kernel)) rfl rfl ?_
  refine V_get C (v := .int (m_taped w3)) (by decide +kernel) 0 8 fk_RX5_119 rfl rfl ?_
  refine V_ic_ne C (off := 10) (tgt := 72) (by decide +kernel) (by decide) h (fun _ h => ?_) (fun _ h => ?_)
  · refine V_pb C hn [(.aload_n 0, 1), (.bipush 101, 2)] (pc' := 68) (ls' := [(0, .ref (a0 0))]) (st' := [.int (101 : Int32), .ref (a0 0)]) (decB_ok (by decide +kernel)) rfl rfl ?_
    obtain ⟨x5, e6, h⟩ := bnd h
    refine V_topi e6 ?_
    obtain ⟨w7, e8, h⟩ := bnd h
    refine V_put C (v := .int x5) (ws' := wdM E.G a0 w7) (by decide +kernel) 0 12 pk_RX5_128 rfl rfl rfl (Nat.le_of_ble_eq_true rfl) (by cases e8; rfl) ?_
    have h := Option.some.inj h
    subst h
    exact V_vret C (by decide +kernel)
  · refine V_pb C hn [(.aload_n 0, 1)] (pc' := 73) (ls' := [(0, .ref (a0 0))]) (st' := [.ref (a0 0)]) (decB_ok (by decide +kernel)) rfl rfl ?_
    refine V_get C (v := .ref (a0 5)) (by decide +kernel) 0 9 fk_RX5_22 rfl rfl ?_
    refine V_pb C hn [(.aload_n 0, 1), (.dup, 1)] (pc' := 78) (ls' := [(0, .ref (a0 0))]) (st' := [.ref (a0 0), .ref (a0 0), .ref (a0 5)]) (decB_ok (by decide +kernel)) rfl rfl ?_
    refine V_get C (v := .int (m_to w3)) (by decide +kernel) 0 11 fk_RX5_122 rfl rfl ?_
    refine V_pb C hn [(.dup_x1, 1), (.iconst 1, 1), (.iadd, 1)] (pc' := 84) (ls' := [(0, .ref (a0 0))]) (st' := [.int ((m_to w3) + (1 : Int32)), .ref (a0 0), .int (m_to w3), .ref (a0 5)]) (decB_ok (by decide +kernel)) rfl rfl ?_
    obtain ⟨x9, e10, h⟩ := bnd h
    refine V_topi e10 ?_
    obtain ⟨w11, e12, h⟩ := bnd h
    refine V_put C (v := .int x9) (ws' := wdM E.G a0 w11) (by decide +kernel) 0 11 pk_RX5_122 rfl rfl rfl (Nat.le_of_ble_eq_true rfl) (by cases e12; rfl) ?_
    refine V_iald C (f := (m_tape w11)) (by decide +kernel) 5 rfl h (fun h => ?_)
    refine V_pb C hn [(.istore_n 1, 1), (.iload_n 1, 1)] (pc' := 90) (ls' := [(0, .ref (a0 0)), (1, .int ((m_tape w11) (ix (m_to w3))))]) (st' := [.int ((m_tape w11) (ix (m_to w3)))]) (decB_ok (by decide +kernel)) rfl rfl ?_
    obtain ⟨q13, h14, h⟩ := bnd h
    refine V_callSp C (As := [.int ((m_tape w11) (ix (m_to w3)))]) (rest := []) (by decide +kernel) ok_yX5_isLetter mk_RX5_131 (cfX5_isLetter (l := E.l) (G := E.G) h14) [] rfl rfl rfl rfl (Nat.le_of_ble_eq_true rfl) (Nat.le_of_ble_eq_true rfl) (Nat.le_of_ble_eq_true rfl) ?_
    show V E _ (wdM E.G a0 w11) 93 [(0, .ref (a0 0)), (1, .int ((m_tape w11) (ix (m_to w3))))] [.int q13]
    refine V_if_eq C (off := 51) (tgt := 144) (by decide +kernel) (by decide) h (fun _ h => ?_) (fun _ h => ?_)
    · refine V_pb C hn [(.iload_n 1, 1)] (pc' := 145) (ls' := [(0, .ref (a0 0)), (1, .int ((m_tape w11) (ix (m_to w3))))]) (st' := [.int ((m_tape w11) (ix (m_to w3)))]) (decB_ok (by decide +kernel)) rfl rfl ?_
      obtain ⟨q15, h16, h⟩ := bnd h
      refine V_callSp C (As := [.int ((m_tape w11) (ix (m_to w3)))]) (rest := []) (by decide +kernel) ok_yX5_isDigit mk_RX5_134 (cfX5_isDigit (l := E.l) (G := E.G) h16) [] rfl rfl rfl rfl (Nat.le_of_ble_eq_true rfl) (Nat.le_of_ble_eq_true rfl) (Nat.le_of_ble_eq_true rfl) ?_
      show V E _ (wdM E.G a0 w11) 148 [(0, .ref (a0 0)), (1, .int ((m_tape w11) (ix (m_to w3))))] [.int q15]
      refine V_if_eq C (off := 114) (tgt := 262) (by decide +kernel) (by decide) h (fun _ h => ?_) (fun _ h => ?_)
      · refine V_pb C hn [(.aload_n 0, 1), (.iload_n 1, 1), (.bipush 59, 2)] (pc' := 266) (ls' := [(0, .ref (a0 0)), (1, .int ((m_tape w11) (ix (m_to w3))))]) (st' := [.int (59 : Int32), .int ((m_tape w11) (ix (m_to w3))), .ref (a0 0)]) (decB_ok (by decide +kernel)) rfl rfl ?_
        refine V_ic_ne C (off := 8) (tgt := 274) (by decide +kernel) (by decide) h (fun _ h => ?_) (fun _ h => ?_)
        · refine V_pb C hn [(.bipush 59, 2)] (pc' := 271) (ls' := [(0, .ref (a0 0)), (1, .int ((m_tape w11) (ix (m_to w3))))]) (st' := [.int (59 : Int32), .ref (a0 0)]) (decB_ok (by decide +kernel)) rfl rfl ?_
          refine V_goto C (off := 5) (tgt := 276) (by decide +kernel) (by decide) ?_
          refine V_sub (ls' := []) rfl ?_
          exact cfX5_next_j276 C hn h
        · refine V_pb C hn [(.bipush 120, 2)] (pc' := 276) (ls' := [(0, .ref (a0 0)), (1, .int ((m_tape w11) (ix (m_to w3))))]) (st' := [.int (120 : Int32), .ref (a0 0)]) (decB_ok (by decide +kernel)) rfl rfl ?_
          refine V_sub (ls' := []) rfl ?_
          exact cfX5_next_j276 C hn h
      · refine V_pb C hn [(.aload_n 0, 1), (.iload_n 1, 1), (.bipush 48, 2), (.isub, 1)] (pc' := 156) (ls' := [(0, .ref (a0 0)), (1, .int ((m_tape w11) (ix (m_to w3))))]) (st' := [.int (((m_tape w11) (ix (m_to w3))) - (48 : Int32)), .ref (a0 0)]) (decB_ok (by decide +kernel)) rfl rfl ?_
        obtain ⟨x19, e20, h⟩ := bnd h
        refine V_topi e20 ?_
        obtain ⟨w21, e22, h⟩ := bnd h
        refine V_put C (v := .int x19) (ws' := wdM E.G a0 w21) (by decide +kernel) 0 13 pk_RX5_137 rfl rfl rfl (Nat.le_of_ble_eq_true rfl) (by cases e22; rfl) ?_
        refine V_sub (ls' := [(0, .ref (a0 0))]) rfl ?_
        exact cfX5_next_L159 C hn FU _ h
    · refine V_sub (ls' := [(0, .ref (a0 0))]) rfl ?_
      exact cfX5_next_L96 C hn FU _ h
set_option maxRecDepth 100000 in
set_option maxHeartbeats 400000 in
theorem cfX5_next_L8 {E : VE} (C : Ctx E cX5_next RX5 1 none) (hn : E.nL = 2) {a0 : Nat → Nat} {out : MT} : ∀ (n : Nat) (S0 : MT), fX5_next_L8 n S0 = some out → V E (QR E none (wdM E.G a0 out)) (wdM E.G a0 S0) 8 [(0, .ref (a0 0))] [] := by
  intro n
  induction n with
  | zero =>
    intro S0 h
    cases h
  | succ n ih =>
    intro S0 h
    unfold fX5_next_L8 at h
    refine V_pb C hn [(.aload_n 0, 1)] (pc' := 9) (ls' := [(0, .ref (a0 0))]) (st' := [.ref (a0 0)]) (decB_ok (by decide +kernel)) rfl rfl ?_
    refine V_get C (v := .int (m_from S0)) (by decide +kernel) 0 10 fk_RX5_125 rfl rfl ?_
    refine V_pb C hn [(.aload_n 0, 1)] (pc' := 13) (ls' := [(0, .ref (a0 0))]) (st' := [.ref (a0 0), .int (m_from S0)]) (decB_ok (by decide +kernel)) rfl rfl ?_
    refine V_get C (v := .int (m_taped S0)) (by decide +kernel) 0 8 fk_RX5_119 rfl rfl ?_
    refine V_ic_ge C (off := 30) (tgt := 46) (by decide +kernel) (by decide) h (fun _ h => ?_) (fun _ h => ?_)
    · refine V_sub (ls' := [(0, .ref (a0 0))]) rfl ?_
      exact cfX5_next_j46 C hn h
    · refine V_pb C hn [(.aload_n 0, 1)] (pc' := 20) (ls' := [(0, .ref (a0 0))]) (st' := [.ref (a0 0)]) (decB_ok (by decide +kernel)) rfl rfl ?_
      refine V_get C (v := .ref (a0 5)) (by decide +kernel) 0 9 fk_RX5_22 rfl rfl ?_
      refine V_pb C hn [(.aload_n 0, 1)] (pc' := 24) (ls' := [(0, .ref (a0 0))]) (st' := [.ref (a0 0), .ref (a0 5)]) (decB_ok (by decide +kernel)) rfl rfl ?_
      refine V_get C (v := .int (m_from S0)) (by decide +kernel) 0 10 fk_RX5_125 rfl rfl ?_
      refine V_iald C (f := (m_tape S0)) (by decide +kernel) 5 rfl h (fun h => ?_)
      refine V_pb C hn [(.bipush 32, 2)] (pc' := 30) (ls' := [(0, .ref (a0 0))]) (st' := [.int (32 : Int32), .int ((m_tape S0) (ix (m_from S0)))]) (decB_ok (by decide +kernel)) rfl rfl ?_
      refine V_ic_ne C (off := 16) (tgt := 46) (by decide +kernel) (by decide) h (fun _ h => ?_) (fun _ h => ?_)
      · refine V_pb C hn [(.aload_n 0, 1), (.dup, 1)] (pc' := 35) (ls' := [(0, .ref (a0 0))]) (st' := [.ref (a0 0), .ref (a0 0)]) (decB_ok (by decide +kernel)) rfl rfl ?_
        refine V_get C (v := .int (m_from S0)) (by decide +kernel) 0 10 fk_RX5_125 rfl rfl ?_
        refine V_pb C hn [(.iconst 1, 1), (.iadd, 1)] (pc' := 40) (ls' := [(0, .ref (a0 0))]) (st' := [.int ((m_from S0) + (1 : Int32)), .ref (a0 0)]) (decB_ok (by decide +kernel)) rfl rfl ?_
        obtain ⟨x45, e46, h⟩ := bnd h
        refine V_topi e46 ?_
        obtain ⟨w47, e48, h⟩ := bnd h
        refine V_put C (v := .int x45) (ws' := wdM E.G a0 w47) (by decide +kernel) 0 10 pk_RX5_125 rfl rfl rfl (Nat.le_of_ble_eq_true rfl) (by cases e48; rfl) ?_
        refine V_goto C (off := -35) (tgt := 8) (by decide +kernel) (by decide) ?_
        refine V_sub (ls' := [(0, .ref (a0 0))]) rfl ?_
        exact ih _ h
      · refine V_sub (ls' := [(0, .ref (a0 0))]) rfl ?_
        exact cfX5_next_j46 C hn h
set_option maxRecDepth 100000 in
set_option maxHeartbeats 400000 in
theorem cfX5_next {l : Launch} {G : GG} (a0 : Nat → Nat) {S0 : MT} {out : MT} (h : fX5_next S0 = some out) : Con l G 1 yX5_next cX5_next 2 none [.ref (a0 0)] (wdM G a0 S0) none (wdM G a0 out) := by
  refine Con_of (by decide +kernel) (Nat.le_of_ble_eq_true rfl) (fun E hl hG hn C => ?_)
  subst hl
  subst hG
  have C : Ctx E cX5_next RX5 1 none := C
  show V E _ _ 0 [(0, .ref (a0 0))] []
  unfold fX5_next at h
  refine V_pb C hn [(.aload_n 0, 1), (.aload_n 0, 1)] (pc' := 2) (ls' := [(0, .ref (a0 0))]) (st' := [.ref (a0 0), .ref (a0 0)]) (decB_ok (by decide +kernel)) rfl rfl ?_
  refine V_get C (v := .int (m_to S0)) (by decide +kernel) 0 11 fk_RX5_122 rfl rfl ?_
  obtain ⟨w1, e2, h⟩ := bnd h
  refine V_put C (v := .int (m_to S0)) (ws' := wdM E.G a0 w1) (by decide +kernel) 0 10 pk_RX5_125 rfl rfl rfl (Nat.le_of_ble_eq_true rfl) (by cases e2; rfl) ?_
  refine V_sub (ls' := [(0, .ref (a0 0))]) rfl ?_
  exact cfX5_next_L8 C hn FU _ h
set_option maxRecDepth 100000 in
set_option maxHeartbeats 400000 in
theorem cfX5_isWord_L29 {E : VE} (C : Ctx E cX5_isWord RX5 4 (some .boolean)) (hn : E.nL = 3) {a0 : Nat → Nat} {p1 : Nat} {S0 : MT} (hsp1 : p1 < 9) {out : Int32} : ∀ (n : Nat) (v2 : Int32), fX5_isWord_L29 p1 S0 n v2 = some out → V E (QR E (some (.int out)) (wdM E.G a0 S0)) (wdM E.G a0 S0) 29 [(0, .ref (a0 0)), (1, .ref (E.G.adK p1)), (2, .int v2)] [] := by
  intro n
  induction n with
  | zero =>
    intro v2 h
    cases h
  | succ n ih =>
    intro v2 h
    unfold fX5_isWord_L29 at h
    refine V_pb C hn [(.iload_n 2, 1), (.aload_n 1, 1)] (pc' := 31) (ls' := [(0, .ref (a0 0)), (1, .ref (E.G.adK p1)), (2, .int v2)]) (st' := [.ref (E.G.adK p1), .int v2]) (decB_ok (by decide +kernel)) rfl rfl ?_
    refine V_slen C (rest := [.int v2]) (by decide +kernel) mk_RX5_140 hsp1 rfl (Nat.le_of_ble_eq_true rfl) (Nat.le_of_ble_eq_true rfl) ?_
    show V E _ (wdM E.G a0 S0) 34 [(0, .ref (a0 0)), (1, .ref (E.G.adK p1)), (2, .int v2)] [.int (sLn p1), .int v2]
    refine V_ic_ge C (off := 30) (tgt := 64) (by decide +kernel) (by decide) h (fun _ h => ?_) (fun _ h => ?_)
    · refine V_pb C hn [(.iconst 1, 1)] (pc' := 65) (ls' := [(0, .ref (a0 0)), (1, .ref (E.G.adK p1)), (2, .int v2)]) (st' := [.int (1 : Int32)]) (decB_ok (by decide +kernel)) rfl rfl ?_
      have h := Option.some.inj h
      subst h
      exact V_iret C (v := (1 : Int32)) (by decide +kernel) nb1
    · refine V_pb C hn [(.aload_n 0, 1)] (pc' := 38) (ls' := [(0, .ref (a0 0)), (1, .ref (E.G.adK p1)), (2, .int v2)]) (st' := [.ref (a0 0)]) (decB_ok (by decide +kernel)) rfl rfl ?_
      refine V_get C (v := .ref (a0 5)) (by decide +kernel) 0 9 fk_RX5_22 rfl rfl ?_
      refine V_pb C hn [(.aload_n 0, 1)] (pc' := 42) (ls' := [(0, .ref (a0 0)), (1, .ref (E.G.adK p1)), (2, .int v2)]) (st' := [.ref (a0 0), .ref (a0 5)]) (decB_ok (by decide +kernel)) rfl rfl ?_
      refine V_get C (v := .int (m_from S0)) (by decide +kernel) 0 10 fk_RX5_125 rfl rfl ?_
      refine V_pb C hn [(.iload_n 2, 1), (.iadd, 1)] (pc' := 47) (ls' := [(0, .ref (a0 0)), (1, .ref (E.G.adK p1)), (2, .int v2)]) (st' := [.int ((m_from S0) + v2), .ref (a0 5)]) (decB_ok (by decide +kernel)) rfl rfl ?_
      refine V_iald C (f := (m_tape S0)) (by decide +kernel) 5 rfl h (fun h => ?_)
      refine V_pb C hn [(.aload_n 1, 1), (.iload_n 2, 1)] (pc' := 50) (ls' := [(0, .ref (a0 0)), (1, .ref (E.G.adK p1)), (2, .int v2)]) (st' := [.int v2, .ref (E.G.adK p1), .int ((m_tape S0) (ix ((m_from S0) + v2)))]) (decB_ok (by decide +kernel)) rfl rfl ?_
      refine V_sch C (rest := [.int ((m_tape S0) (ix ((m_from S0) + v2)))]) (by decide +kernel) mk_RX5_146 hsp1 h rfl (Nat.le_of_ble_eq_true rfl) (Nat.le_of_ble_eq_true rfl) (fun h => ?_)
      show V E _ (wdM E.G a0 S0) 53 [(0, .ref (a0 0)), (1, .ref (E.G.adK p1)), (2, .int v2)] [.int (sCh p1 (ix v2)), .int ((m_tape S0) (ix ((m_from S0) + v2)))]
      refine V_ic_eq C (off := 5) (tgt := 58) (by decide +kernel) (by decide) h (fun _ h => ?_) (fun _ h => ?_)
      · refine V_pb C hn [(.iinc 2 1, 3)] (pc' := 61) (ls' := [(0, .ref (a0 0)), (1, .ref (E.G.adK p1)), (2, .int (v2 + (1 : Int32)))]) (st' := []) (decB_ok (by decide +kernel)) rfl rfl ?_
        refine V_goto C (off := -32) (tgt := 29) (by decide +kernel) (by decide) ?_
        refine V_sub (ls' := [(0, .ref (a0 0)), (1, .ref (E.G.adK p1)), (2, .int (v2 + (1 : Int32)))]) rfl ?_
        exact ih _ h
      · refine V_pb C hn [(.iconst 0, 1)] (pc' := 57) (ls' := [(0, .ref (a0 0)), (1, .ref (E.G.adK p1)), (2, .int v2)]) (st' := [.int (0 : Int32)]) (decB_ok (by decide +kernel)) rfl rfl ?_
        have h := Option.some.inj h
        subst h
        exact V_iret C (v := (0 : Int32)) (by decide +kernel) nb0
set_option maxRecDepth 100000 in
set_option maxHeartbeats 400000 in
theorem cfX5_isWord {l : Launch} {G : GG} (a0 : Nat → Nat) {p1 : Nat} {S0 : MT} {out : Int32} (hsp1 : p1 < 9) (h : fX5_isWord p1 S0 = some out) : Con l G 4 yX5_isWord cX5_isWord 3 (some .boolean) [.ref (a0 0), .ref (G.adK p1)] (wdM G a0 S0) (some (.int out)) (wdM G a0 S0) := by
  refine Con_of (by decide +kernel) (Nat.le_of_ble_eq_true rfl) (fun E hl hG hn C => ?_)
  subst hl
  subst hG
  have C : Ctx E cX5_isWord RX5 4 (some .boolean) := C
  show V E _ _ 0 [(0, .ref (a0 0)), (1, .ref (E.G.adK p1))] []
  unfold fX5_isWord at h
  refine V_pb C hn [(.aload_n 0, 1)] (pc' := 1) (ls' := [(0, .ref (a0 0)), (1, .ref (E.G.adK p1))]) (st' := [.ref (a0 0)]) (decB_ok (by decide +kernel)) rfl rfl ?_
  refine V_get C (v := .int (m_token S0)) (by decide +kernel) 0 12 fk_RX5_128 rfl rfl ?_
  refine V_pb C hn [(.bipush 119, 2)] (pc' := 6) (ls' := [(0, .ref (a0 0)), (1, .ref (E.G.adK p1))]) (st' := [.int (119 : Int32), .int (m_token S0)]) (decB_ok (by decide +kernel)) rfl rfl ?_
  refine V_ic_ne C (off := 19) (tgt := 25) (by decide +kernel) (by decide) h (fun _ h => ?_) (fun _ h => ?_)
  · refine V_pb C hn [(.aload_n 0, 1)] (pc' := 10) (ls' := [(0, .ref (a0 0)), (1, .ref (E.G.adK p1))]) (st' := [.ref (a0 0)]) (decB_ok (by decide +kernel)) rfl rfl ?_
    refine V_get C (v := .int (m_to S0)) (by decide +kernel) 0 11 fk_RX5_122 rfl rfl ?_
    refine V_pb C hn [(.aload_n 0, 1)] (pc' := 14) (ls' := [(0, .ref (a0 0)), (1, .ref (E.G.adK p1))]) (st' := [.ref (a0 0), .int (m_to S0)]) (decB_ok (by decide +kernel)) rfl rfl ?_
    refine V_get C (v := .int (m_from S0)) (by decide +kernel) 0 10 fk_RX5_125 rfl rfl ?_
    refine V_pb C hn [(.isub, 1), (.aload_n 1, 1)] (pc' := 19) (ls' := [(0, .ref (a0 0)), (1, .ref (E.G.adK p1))]) (st' := [.ref (E.G.adK p1), .int ((m_to S0) - (m_from S0))]) (decB_ok (by decide +kernel)) rfl rfl ?_
    refine V_slen C (rest := [.int ((m_to S0) - (m_from S0))]) (by decide +kernel) mk_RX5_140 hsp1 rfl (Nat.le_of_ble_eq_true rfl) (Nat.le_of_ble_eq_true rfl) ?_
    show V E _ (wdM E.G a0 S0) 22 [(0, .ref (a0 0)), (1, .ref (E.G.adK p1))] [.int (sLn p1), .int ((m_to S0) - (m_from S0))]
    refine V_ic_eq C (off := 5) (tgt := 27) (by decide +kernel) (by decide) h (fun _ h => ?_) (fun _ h => ?_)
    · refine V_pb C hn [(.iconst 0, 1), (.istore_n 2, 1)] (pc' := 29) (ls' := [(0, .ref (a0 0)), (1, .ref (E.G.adK p1)), (2, .int (0 : Int32))]) (st' := []) (decB_ok (by decide +kernel)) rfl rfl ?_
      refine V_sub (ls' := [(0, .ref (a0 0)), (1, .ref (E.G.adK p1)), (2, .int (0 : Int32))]) rfl ?_
      exact cfX5_isWord_L29 C hn hsp1 FU _ h
    · refine V_pb C hn [(.iconst 0, 1)] (pc' := 26) (ls' := [(0, .ref (a0 0)), (1, .ref (E.G.adK p1))]) (st' := [.int (0 : Int32)]) (decB_ok (by decide +kernel)) rfl rfl ?_
      have h := Option.some.inj h
      subst h
      exact V_iret C (v := (0 : Int32)) (by decide +kernel) nb0
  · refine V_pb C hn [(.iconst 0, 1)] (pc' := 26) (ls' := [(0, .ref (a0 0)), (1, .ref (E.G.adK p1))]) (st' := [.int (0 : Int32)]) (decB_ok (by decide +kernel)) rfl rfl ?_
    have h := Option.some.inj h
    subst h
    exact V_iret C (v := (0 : Int32)) (by decide +kernel) nb0
set_option maxRecDepth 100000 in
set_option maxHeartbeats 400000 in
theorem cfX5_number {l : Launch} {G : GG} (a0 : Nat → Nat) {p1 : Int32} {p2 : Int32} {S0 : MT} {out : Int32 × MT} (h : fX5_number p1 p2 S0 = some out) : Con l G 2 yX5_number cX5_number 3 (some .int) [.ref (a0 0), .int p1, .int p2] (wdM G a0 S0) (some (.int out.1)) (wdM G a0 out.2) := by
  refine Con_of (by decide +kernel) (Nat.le_of_ble_eq_true rfl) (fun E hl hG hn C => ?_)
  subst hl
  subst hG
  have C : Ctx E cX5_number RX5 2 (some .int) := C
  show V E _ _ 0 [(0, .ref (a0 0)), (1, .int p1), (2, .int p2)] []
  unfold fX5_number at h
  refine V_pb C hn [(.aload_n 0, 1)] (pc' := 1) (ls' := [(0, .ref (a0 0)), (1, .int p1), (2, .int p2)]) (st' := [.ref (a0 0)]) (decB_ok (by decide +kernel)) rfl rfl ?_
  obtain ⟨q1, h2, h⟩ := bnd h
  refine V_callV0 C (As := []) (rest := []) (by decide +kernel) ok_yX5_next mk_RX5_150 (cfX5_next (l := E.l) (G := E.G) a0 h2) (q0 := 0) rfl rfl rfl rfl rfl rfl (Nat.le_of_ble_eq_true rfl) (Nat.le_of_ble_eq_true rfl) (Nat.le_of_ble_eq_true rfl) ?_
  show V E _ (wdM E.G a0 q1) 4 [(0, .ref (a0 0)), (1, .int p1), (2, .int p2)] []
  refine V_pb C hn [(.aload_n 0, 1)] (pc' := 5) (ls' := [(0, .ref (a0 0)), (1, .int p1), (2, .int p2)]) (st' := [.ref (a0 0)]) (decB_ok (by decide +kernel)) rfl rfl ?_
  refine V_get C (v := .int (m_token q1)) (by decide +kernel) 0 12 fk_RX5_128 rfl rfl ?_
  refine V_pb C hn [(.bipush 48, 2)] (pc' := 10) (ls' := [(0, .ref (a0 0)), (1, .int p1), (2, .int p2)]) (st' := [.int (48 : Int32), .int (m_token q1)]) (decB_ok (by decide +kernel)) rfl rfl ?_
  refine V_ic_ne C (off := 22) (tgt := 32) (by decide +kernel) (by decide) h (fun _ h => ?_) (fun _ h => ?_)
  · refine V_pb C hn [(.aload_n 0, 1)] (pc' := 14) (ls' := [(0, .ref (a0 0)), (1, .int p1), (2, .int p2)]) (st' := [.ref (a0 0)]) (decB_ok (by decide +kernel)) rfl rfl ?_
    refine V_get C (v := .int (m_value q1)) (by decide +kernel) 0 13 fk_RX5_137 rfl rfl ?_
    refine V_pb C hn [(.iload_n 1, 1), (.iload_n 2, 1)] (pc' := 19) (ls' := [(0, .ref (a0 0)), (1, .int p1), (2, .int p2)]) (st' := [.int p2, .int p1, .int (m_value q1)]) (decB_ok (by decide +kernel)) rfl rfl ?_
    obtain ⟨q3, h4, h⟩ := bnd h
    refine V_callSp C (As := [.int (m_value q1), .int p1, .int p2]) (rest := []) (by decide +kernel) ok_yX5_within mk_RX5_63 (cfX5_within (l := E.l) (G := E.G) h4) [] rfl rfl rfl rfl (Nat.le_of_ble_eq_true rfl) (Nat.le_of_ble_eq_true rfl) (Nat.le_of_ble_eq_true rfl) ?_
    show V E _ (wdM E.G a0 q1) 22 [(0, .ref (a0 0)), (1, .int p1), (2, .int p2)] [.int q3]
    refine V_if_eq C (off := 10) (tgt := 32) (by decide +kernel) (by decide) h (fun _ h => ?_) (fun _ h => ?_)
    · refine V_pb C hn [(.iconst (-1), 1)] (pc' := 33) (ls' := [(0, .ref (a0 0)), (1, .int p1), (2, .int p2)]) (st' := [.int (cI (-1))]) (decB_ok (by decide +kernel)) rfl rfl ?_
      have h := Option.some.inj h
      subst h
      exact V_iret C (by decide +kernel) rfl
    · refine V_pb C hn [(.aload_n 0, 1)] (pc' := 26) (ls' := [(0, .ref (a0 0)), (1, .int p1), (2, .int p2)]) (st' := [.ref (a0 0)]) (decB_ok (by decide +kernel)) rfl rfl ?_
      refine V_get C (v := .int (m_value q1)) (by decide +kernel) 0 13 fk_RX5_137 rfl rfl ?_
      refine V_goto C (off := 4) (tgt := 33) (by decide +kernel) (by decide) ?_
      have h := Option.some.inj h
      subst h
      exact V_iret C (by decide +kernel) rfl
  · refine V_pb C hn [(.iconst (-1), 1)] (pc' := 33) (ls' := [(0, .ref (a0 0)), (1, .int p1), (2, .int p2)]) (st' := [.int (cI (-1))]) (decB_ok (by decide +kernel)) rfl rfl ?_
    have h := Option.some.inj h
    subst h
    exact V_iret C (by decide +kernel) rfl
set_option maxRecDepth 100000 in
set_option maxHeartbeats 400000 in
theorem cfX5_statement_j228 {E : VE} (C : Ctx E cX5_statement RX5 5 (some .boolean)) (hn : E.nL = 4) {a0 : Nat → Nat} {s0 : Int32} {S0 : MT} {out : Int32 × MT} (h : fX5_statement_j228 s0 S0 = some out) : V E (QR E (some (.int out.1)) (wdM E.G a0 out.2)) (wdM E.G a0 S0) 228 [(0, .ref (a0 0))] [.int s0] := by
  unfold fX5_statement_j228 at h
  refine V_pb C hn [(.istore_n 3, 1), (.iload_n 3, 1), (.iconst (-1), 1)] (pc' := 231) (ls' := [(0, .ref (a0 0)), (3, .int s0)]) (st' := [.int (cI (-1)), .int s0]) (decB_ok (by decide +kernel)) rfl rfl ?_
  refine V_ic_ne C (off := 5) (tgt := 236) (by decide +kernel) (by decide) h (fun _ h => ?_) (fun _ h => ?_)
  · refine V_pb C hn [(.iconst 0, 1)] (pc' := 235) (ls' := [(0, .ref (a0 0)), (3, .int s0)]) (st' := [.int (0 : Int32)]) (decB_ok (by decide +kernel)) rfl rfl ?_
    have h := Option.some.inj h
    subst h
    exact V_iret C (v := (0 : Int32)) (by decide +kernel) nb0
  · refine V_pb C hn [(.aload_n 0, 1), (.iconst 0, 1), (.iload_n 3, 1)] (pc' := 239) (ls' := [(0, .ref (a0 0)), (3, .int s0)]) (st' := [.int s0, .int (0 : Int32), .ref (a0 0)]) (decB_ok (by decide +kernel)) rfl rfl ?_
    obtain ⟨q19, h20, h⟩ := bnd h
    refine V_callSp C (As := [.int s0]) (rest := [.int (0 : Int32), .ref (a0 0)]) (by decide +kernel) ok_yX5_highest mk_RX5_116 (cfX5_highest (l := E.l) (G := E.G) h20) [] rfl rfl rfl rfl (Nat.le_of_ble_eq_true rfl) (Nat.le_of_ble_eq_true rfl) (Nat.le_of_ble_eq_true rfl) ?_
    show V E _ (wdM E.G a0 S0) 242 [(0, .ref (a0 0)), (3, .int s0)] [.int q19, .int (0 : Int32), .ref (a0 0)]
    obtain ⟨q21, h22, h⟩ := bnd h
    refine V_callV0 C (As := [.int (0 : Int32), .int q19]) (rest := []) (by decide +kernel) ok_yX5_number mk_RX5_159 (cfX5_number (l := E.l) (G := E.G) a0 h22) (q0 := 0) rfl rfl rfl rfl rfl rfl (Nat.le_of_ble_eq_true rfl) (Nat.le_of_ble_eq_true rfl) (Nat.le_of_ble_eq_true rfl) ?_
    show V E _ (wdM E.G a0 q21.2) 245 [(0, .ref (a0 0)), (3, .int s0)] [.int q21.1]
    refine V_pb C hn [(.istore_n 1, 1), (.iload_n 1, 1), (.iconst (-1), 1)] (pc' := 248) (ls' := [(0, .ref (a0 0)), (1, .int q21.1), (3, .int s0)]) (st' := [.int (cI (-1)), .int q21.1]) (decB_ok (by decide +kernel)) rfl rfl ?_
    refine V_ic_ne C (off := 5) (tgt := 253) (by decide +kernel) (by decide) h (fun _ h => ?_) (fun _ h => ?_)
    · refine V_pb C hn [(.iconst 0, 1)] (pc' := 252) (ls' := [(0, .ref (a0 0)), (1, .int q21.1), (3, .int s0)]) (st' := [.int (0 : Int32)]) (decB_ok (by decide +kernel)) rfl rfl ?_
      have h := Option.some.inj h
      subst h
      exact V_iret C (v := (0 : Int32)) (by decide +kernel) nb0
    · refine V_pb C hn [(.aload_n 0, 1)] (pc' := 254) (ls' := [(0, .ref (a0 0)), (1, .int q21.1), (3, .int s0)]) (st' := [.ref (a0 0)]) (decB_ok (by decide +kernel)) rfl rfl ?_
      refine V_get C (v := .ref (a0 4)) (by decide +kernel) 0 6 fk_RX5_19 rfl rfl ?_
      refine V_pb C hn [(.iload_n 3, 1), (.iload_n 1, 1)] (pc' := 259) (ls' := [(0, .ref (a0 0)), (1, .int q21.1), (3, .int s0)]) (st' := [.int q21.1, .int s0, .ref (a0 4)]) (decB_ok (by decide +kernel)) rfl rfl ?_
      obtain ⟨hb9, h⟩ := gd_some h
      obtain ⟨w23, e24, h⟩ := bnd h
      refine V_iast C (f := (m_ways q21.2)) (ws' := wdM E.G a0 w23) (by decide +kernel) 4 rfl (o := some ()) (out := ()) (by rw [hb9]; rfl) (by cases e24; rfl) (fun _ => ?_)
      refine V_pb C hn [(.iconst 1, 1)] (pc' := 261) (ls' := [(0, .ref (a0 0)), (1, .int q21.1), (3, .int s0)]) (st' := [.int (1 : Int32)]) (decB_ok (by decide +kernel)) rfl rfl ?_
      have h := Option.some.inj h
      subst h
      exact V_iret C (v := (1 : Int32)) (by decide +kernel) nb1
set_option maxRecDepth 100000 in
set_option maxHeartbeats 400000 in
theorem cfX5_statement_j140 {E : VE} (C : Ctx E cX5_statement RX5 5 (some .boolean)) (hn : E.nL = 4) {a0 : Nat → Nat} {v2 : Int32} {S0 : MT} {out : Int32 × MT} (h : fX5_statement_j140 v2 S0 = some out) : V E (QR E (some (.int out.1)) (wdM E.G a0 out.2)) (wdM E.G a0 S0) 140 [(0, .ref (a0 0)), (2, .int v2)] [] := by
  unfold fX5_statement_j140 at h
  refine V_pb C hn [(.aload_n 0, 1), (.iconst 0, 1), (.iconst 3, 1)] (pc' := 143) (ls' := [(0, .ref (a0 0)), (2, .int v2)]) (st' := [.int (3 : Int32), .int (0 : Int32), .ref (a0 0)]) (decB_ok (by decide +kernel)) rfl rfl ?_
  obtain ⟨q25, h26, h⟩ := bnd h
  refine V_callV0 C (As := [.int (0 : Int32), .int (3 : Int32)]) (rest := []) (by decide +kernel) ok_yX5_number mk_RX5_159 (cfX5_number (l := E.l) (G := E.G) a0 h26) (q0 := 0) rfl rfl rfl rfl rfl rfl (Nat.le_of_ble_eq_true rfl) (Nat.le_of_ble_eq_true rfl) (Nat.le_of_ble_eq_true rfl) ?_
  show V E _ (wdM E.G a0 q25.2) 146 [(0, .ref (a0 0)), (2, .int v2)] [.int q25.1]
  refine V_pb C hn [(.istore_n 1, 1), (.iload_n 1, 1), (.iconst (-1), 1)] (pc' := 149) (ls' := [(0, .ref (a0 0)), (1, .int q25.1), (2, .int v2)]) (st' := [.int (cI (-1)), .int q25.1]) (decB_ok (by decide +kernel)) rfl rfl ?_
  refine V_ic_ne C (off := 5) (tgt := 154) (by decide +kernel) (by decide) h (fun _ h => ?_) (fun _ h => ?_)
  · refine V_pb C hn [(.iconst 0, 1)] (pc' := 153) (ls' := [(0, .ref (a0 0)), (1, .int q25.1), (2, .int v2)]) (st' := [.int (0 : Int32)]) (decB_ok (by decide +kernel)) rfl rfl ?_
    have h := Option.some.inj h
    subst h
    exact V_iret C (v := (0 : Int32)) (by decide +kernel) nb0
  · refine V_pb C hn [(.aload_n 0, 1), (.iload_n 1, 1), (.iload_n 2, 1)] (pc' := 157) (ls' := [(0, .ref (a0 0)), (1, .int q25.1), (2, .int v2)]) (st' := [.int v2, .int q25.1, .ref (a0 0)]) (decB_ok (by decide +kernel)) rfl rfl ?_
    obtain ⟨q27, h28, h⟩ := bnd h
    refine V_callV0 C (As := [.int q25.1, .int v2]) (rest := []) (by decide +kernel) ok_yX5_opens mk_RX5_112 (cfX5_opens (l := E.l) (G := E.G) a0 h28) (q0 := 0) rfl rfl rfl rfl rfl rfl (Nat.le_of_ble_eq_true rfl) (Nat.le_of_ble_eq_true rfl) (Nat.le_of_ble_eq_true rfl) ?_
    show V E _ (wdM E.G a0 q27) 160 [(0, .ref (a0 0)), (1, .int q25.1), (2, .int v2)] []
    refine V_pb C hn [(.iconst 1, 1)] (pc' := 161) (ls' := [(0, .ref (a0 0)), (1, .int q25.1), (2, .int v2)]) (st' := [.int (1 : Int32)]) (decB_ok (by decide +kernel)) rfl rfl ?_
    have h := Option.some.inj h
    subst h
    exact V_iret C (v := (1 : Int32)) (by decide +kernel) nb1
set_option maxRecDepth 100000 in
set_option maxHeartbeats 400000 in
theorem cfX5_statement_j94 {E : VE} (C : Ctx E cX5_statement RX5 5 (some .boolean)) (hn : E.nL = 4) {a0 : Nat → Nat} {v1 : Int32} {v2 : Int32} {s0 : Int32} {S0 : MT} {out : Int32 × MT} (h : fX5_statement_j94 v1 v2 s0 S0 = some out) : V E (QR E (some (.int out.1)) (wdM E.G a0 out.2)) (wdM E.G a0 S0) 94 [(0, .ref (a0 0)), (1, .int v1), (2, .int v2)] [.int s0] := by
  unfold fX5_statement_j94 at h
  refine V_pb C hn [(.istore_n 3, 1), (.iload_n 3, 1), (.iconst (-1), 1)] (pc' := 97) (ls' := [(0, .ref (a0 0)), (1, .int v1), (2, .int v2), (3, .int s0)]) (st' := [.int (cI (-1)), .int s0]) (decB_ok (by decide +kernel)) rfl rfl ?_
  refine V_ic_eq C (off := 11) (tgt := 108) (by decide +kernel) (by decide) h (fun _ h => ?_) (fun _ h => ?_)
  · refine V_pb C hn [(.iconst 0, 1)] (pc' := 109) (ls' := [(0, .ref (a0 0)), (1, .int v1), (2, .int v2), (3, .int s0)]) (st' := [.int (0 : Int32)]) (decB_ok (by decide +kernel)) rfl rfl ?_
    have h := Option.some.inj h
    subst h
    exact V_iret C (v := (0 : Int32)) (by decide +kernel) nb0
  · refine V_pb C hn [(.aload_n 0, 1), (.iload_n 3, 1)] (pc' := 102) (ls' := [(0, .ref (a0 0)), (1, .int v1), (2, .int v2), (3, .int s0)]) (st' := [.int s0, .ref (a0 0)]) (decB_ok (by decide +kernel)) rfl rfl ?_
    obtain ⟨q31, h32, h⟩ := bnd h
    refine V_callV0 C (As := [.int s0]) (rest := []) (by decide +kernel) ok_yX5_isCell mk_RX5_102 (cfX5_isCell (l := E.l) (G := E.G) a0 h32) (q0 := 0) rfl rfl rfl rfl rfl rfl (Nat.le_of_ble_eq_true rfl) (Nat.le_of_ble_eq_true rfl) (Nat.le_of_ble_eq_true rfl) ?_
    show V E _ (wdM E.G a0 S0) 105 [(0, .ref (a0 0)), (1, .int v1), (2, .int v2), (3, .int s0)] [.int q31]
    refine V_if_ne C (off := 5) (tgt := 110) (by decide +kernel) (by decide) h (fun _ h => ?_) (fun _ h => ?_)
    · refine V_pb C hn [(.iconst 0, 1)] (pc' := 109) (ls' := [(0, .ref (a0 0)), (1, .int v1), (2, .int v2), (3, .int s0)]) (st' := [.int (0 : Int32)]) (decB_ok (by decide +kernel)) rfl rfl ?_
      have h := Option.some.inj h
      subst h
      exact V_iret C (v := (0 : Int32)) (by decide +kernel) nb0
    · refine V_pb C hn [(.aload_n 0, 1), (.iload_n 1, 1), (.iload_n 2, 1), (.iload_n 3, 1)] (pc' := 114) (ls' := [(0, .ref (a0 0)), (1, .int v1), (2, .int v2), (3, .int s0)]) (st' := [.int s0, .int v2, .int v1, .ref (a0 0)]) (decB_ok (by decide +kernel)) rfl rfl ?_
      obtain ⟨q33, h34, h⟩ := bnd h
      refine V_callV0 C (As := [.int v1, .int v2, .int s0]) (rest := []) (by decide +kernel) ok_yX5_newMote mk_RX5_105 (cfX5_newMote (l := E.l) (G := E.G) a0 h34) (q0 := 0) rfl rfl rfl rfl rfl rfl (Nat.le_of_ble_eq_true rfl) (Nat.le_of_ble_eq_true rfl) (Nat.le_of_ble_eq_true rfl) ?_
      show V E _ (wdM E.G a0 q33.2) 117 [(0, .ref (a0 0)), (1, .int v1), (2, .int v2), (3, .int s0)] [.int q33.1]
      refine V_pb C hn [(.pop, 1), (.iconst 1, 1)] (pc' := 119) (ls' := [(0, .ref (a0 0)), (1, .int v1), (2, .int v2), (3, .int s0)]) (st' := [.int (1 : Int32)]) (decB_ok (by decide +kernel)) rfl rfl ?_
      have h := Option.some.inj h
      subst h
      exact V_iret C (v := (1 : Int32)) (by decide +kernel) nb1
set_option maxRecDepth 100000 in
set_option maxHeartbeats 400000 in
theorem cfX5_statement_j77 {E : VE} (C : Ctx E cX5_statement RX5 5 (some .boolean)) (hn : E.nL = 4) {a0 : Nat → Nat} {v1 : Int32} {s0 : Int32} {S0 : MT} {out : Int32 × MT} (h : fX5_statement_j77 v1 s0 S0 = some out) : V E (QR E (some (.int out.1)) (wdM E.G a0 out.2)) (wdM E.G a0 S0) 77 [(0, .ref (a0 0)), (1, .int v1)] [.int s0] := by
  unfold fX5_statement_j77 at h
  refine V_pb C hn [(.istore_n 2, 1), (.iload_n 2, 1), (.iconst (-1), 1)] (pc' := 80) (ls' := [(0, .ref (a0 0)), (1, .int v1), (2, .int s0)]) (st' := [.int (cI (-1)), .int s0]) (decB_ok (by decide +kernel)) rfl rfl ?_
  refine V_ic_ne C (off := 7) (tgt := 87) (by decide +kernel) (by decide) h (fun _ h => ?_) (fun _ h => ?_)
  · refine V_pb C hn [(.iconst (-1), 1)] (pc' := 84) (ls' := [(0, .ref (a0 0)), (1, .int v1), (2, .int s0)]) (st' := [.int (cI (-1))]) (decB_ok (by decide +kernel)) rfl rfl ?_
    refine V_goto C (off := 10) (tgt := 94) (by decide +kernel) (by decide) ?_
    refine V_sub (ls' := [(0, .ref (a0 0)), (1, .int v1), (2, .int s0)]) rfl ?_
    exact cfX5_statement_j94 C hn h
  · refine V_pb C hn [(.aload_n 0, 1), (.iconst 0, 1), (.bipush 66, 2)] (pc' := 91) (ls' := [(0, .ref (a0 0)), (1, .int v1), (2, .int s0)]) (st' := [.int (66 : Int32), .int (0 : Int32), .ref (a0 0)]) (decB_ok (by decide +kernel)) rfl rfl ?_
    obtain ⟨q35, h36, h⟩ := bnd h
    refine V_callV0 C (As := [.int (0 : Int32), .int (66 : Int32)]) (rest := []) (by decide +kernel) ok_yX5_number mk_RX5_159 (cfX5_number (l := E.l) (G := E.G) a0 h36) (q0 := 0) rfl rfl rfl rfl rfl rfl (Nat.le_of_ble_eq_true rfl) (Nat.le_of_ble_eq_true rfl) (Nat.le_of_ble_eq_true rfl) ?_
    show V E _ (wdM E.G a0 q35.2) 94 [(0, .ref (a0 0)), (1, .int v1), (2, .int s0)] [.int q35.1]
    refine V_sub (ls' := [(0, .ref (a0 0)), (1, .int v1), (2, .int s0)]) rfl ?_
    exact cfX5_statement_j94 C hn h
set_option maxRecDepth 100000 in
set_option maxHeartbeats 400000 in
theorem cfX5_statement {l : Launch} {G : GG} (a0 : Nat → Nat) {S0 : MT} {out : Int32 × MT} (h : fX5_statement S0 = some out) : Con l G 5 yX5_statement cX5_statement 4 (some .boolean) [.ref (a0 0)] (wdM G a0 S0) (some (.int out.1)) (wdM G a0 out.2) := by
  refine Con_of (by decide +kernel) (Nat.le_of_ble_eq_true rfl) (fun E hl hG hn C => ?_)
  subst hl
  subst hG
  have C : Ctx E cX5_statement RX5 5 (some .boolean) := C
  show V E _ _ 0 [(0, .ref (a0 0))] []
  unfold fX5_statement at h
  refine V_pb C hn [(.aload_n 0, 1)] (pc' := 1) (ls' := [(0, .ref (a0 0))]) (st' := [.ref (a0 0)]) (decB_ok (by decide +kernel)) rfl rfl ?_
  refine V_ldcS C (by decide +kernel) (sr_9) ?_
  obtain ⟨q1, h2, h⟩ := bnd h
  refine V_callV0 C (As := [.ref (E.G.adK 0)]) (rest := []) (by decide +kernel) ok_yX5_isWord mk_RX5_155 (cfX5_isWord (l := E.l) (G := E.G) a0 (by decide) h2) (q0 := 0) rfl rfl rfl rfl rfl rfl (Nat.le_of_ble_eq_true rfl) (Nat.le_of_ble_eq_true rfl) (Nat.le_of_ble_eq_true rfl) ?_
  show V E _ (wdM E.G a0 S0) 6 [(0, .ref (a0 0))] [.int q1]
  refine V_if_eq C (off := 28) (tgt := 34) (by decide +kernel) (by decide) h (fun _ h => ?_) (fun _ h => ?_)
  · refine V_pb C hn [(.aload_n 0, 1)] (pc' := 35) (ls' := [(0, .ref (a0 0))]) (st' := [.ref (a0 0)]) (decB_ok (by decide +kernel)) rfl rfl ?_
    refine V_ldcS C (by decide +kernel) (sr_10) ?_
    obtain ⟨q3, h4, h⟩ := bnd h
    refine V_callV0 C (As := [.ref (E.G.adK 1)]) (rest := []) (by decide +kernel) ok_yX5_isWord mk_RX5_155 (cfX5_isWord (l := E.l) (G := E.G) a0 (by decide) h4) (q0 := 0) rfl rfl rfl rfl rfl rfl (Nat.le_of_ble_eq_true rfl) (Nat.le_of_ble_eq_true rfl) (Nat.le_of_ble_eq_true rfl) ?_
    show V E _ (wdM E.G a0 S0) 40 [(0, .ref (a0 0))] [.int q3]
    refine V_if_eq C (off := 80) (tgt := 120) (by decide +kernel) (by decide) h (fun _ h => ?_) (fun _ h => ?_)
    · refine V_pb C hn [(.aload_n 0, 1)] (pc' := 121) (ls' := [(0, .ref (a0 0))]) (st' := [.ref (a0 0)]) (decB_ok (by decide +kernel)) rfl rfl ?_
      refine V_ldcS C (by decide +kernel) (sr_11) ?_
      obtain ⟨q5, h6, h⟩ := bnd h
      refine V_callV0 C (As := [.ref (E.G.adK 2)]) (rest := []) (by decide +kernel) ok_yX5_isWord mk_RX5_155 (cfX5_isWord (l := E.l) (G := E.G) a0 (by decide) h6) (q0 := 0) rfl rfl rfl rfl rfl rfl (Nat.le_of_ble_eq_true rfl) (Nat.le_of_ble_eq_true rfl) (Nat.le_of_ble_eq_true rfl) ?_
      show V E _ (wdM E.G a0 S0) 126 [(0, .ref (a0 0))] [.int q5]
      refine V_pb C hn [(.istore_n 2, 1), (.iload_n 2, 1)] (pc' := 128) (ls' := [(0, .ref (a0 0)), (2, .int q5)]) (st' := [.int q5]) (decB_ok (by decide +kernel)) rfl rfl ?_
      refine V_if_ne C (off := 12) (tgt := 140) (by decide +kernel) (by decide) h (fun _ h => ?_) (fun _ h => ?_)
      · refine V_pb C hn [(.aload_n 0, 1)] (pc' := 132) (ls' := [(0, .ref (a0 0)), (2, .int q5)]) (st' := [.ref (a0 0)]) (decB_ok (by decide +kernel)) rfl rfl ?_
        refine V_ldcS C (by decide +kernel) (sr_12) ?_
        obtain ⟨q7, h8, h⟩ := bnd h
        refine V_callV0 C (As := [.ref (E.G.adK 3)]) (rest := []) (by decide +kernel) ok_yX5_isWord mk_RX5_155 (cfX5_isWord (l := E.l) (G := E.G) a0 (by decide) h8) (q0 := 0) rfl rfl rfl rfl rfl rfl (Nat.le_of_ble_eq_true rfl) (Nat.le_of_ble_eq_true rfl) (Nat.le_of_ble_eq_true rfl) ?_
        show V E _ (wdM E.G a0 S0) 137 [(0, .ref (a0 0)), (2, .int q5)] [.int q7]
        refine V_if_eq C (off := 25) (tgt := 162) (by decide +kernel) (by decide) h (fun _ h => ?_) (fun _ h => ?_)
        · refine V_pb C hn [(.aload_n 0, 1)] (pc' := 163) (ls' := [(0, .ref (a0 0)), (2, .int q5)]) (st' := [.ref (a0 0)]) (decB_ok (by decide +kernel)) rfl rfl ?_
          refine V_ldcS C (by decide +kernel) (sr_13) ?_
          obtain ⟨q9, h10, h⟩ := bnd h
          refine V_callV0 C (As := [.ref (E.G.adK 4)]) (rest := []) (by decide +kernel) ok_yX5_isWord mk_RX5_155 (cfX5_isWord (l := E.l) (G := E.G) a0 (by decide) h10) (q0 := 0) rfl rfl rfl rfl rfl rfl (Nat.le_of_ble_eq_true rfl) (Nat.le_of_ble_eq_true rfl) (Nat.le_of_ble_eq_true rfl) ?_
          show V E _ (wdM E.G a0 S0) 168 [(0, .ref (a0 0)), (2, .int q5)] [.int q9]
          refine V_if_eq C (off := 7) (tgt := 175) (by decide +kernel) (by decide) h (fun _ h => ?_) (fun _ h => ?_)
          · refine V_pb C hn [(.aload_n 0, 1)] (pc' := 176) (ls' := [(0, .ref (a0 0)), (2, .int q5)]) (st' := [.ref (a0 0)]) (decB_ok (by decide +kernel)) rfl rfl ?_
            refine V_ldcS C (by decide +kernel) (sr_14) ?_
            obtain ⟨q11, h12, h⟩ := bnd h
            refine V_callV0 C (As := [.ref (E.G.adK 5)]) (rest := []) (by decide +kernel) ok_yX5_isWord mk_RX5_155 (cfX5_isWord (l := E.l) (G := E.G) a0 (by decide) h12) (q0 := 0) rfl rfl rfl rfl rfl rfl (Nat.le_of_ble_eq_true rfl) (Nat.le_of_ble_eq_true rfl) (Nat.le_of_ble_eq_true rfl) ?_
            show V E _ (wdM E.G a0 S0) 181 [(0, .ref (a0 0)), (2, .int q5)] [.int q11]
            refine V_if_eq C (off := 7) (tgt := 188) (by decide +kernel) (by decide) h (fun _ h => ?_) (fun _ h => ?_)
            · refine V_pb C hn [(.aload_n 0, 1)] (pc' := 189) (ls' := [(0, .ref (a0 0)), (2, .int q5)]) (st' := [.ref (a0 0)]) (decB_ok (by decide +kernel)) rfl rfl ?_
              refine V_ldcS C (by decide +kernel) (sr_15) ?_
              obtain ⟨q13, h14, h⟩ := bnd h
              refine V_callV0 C (As := [.ref (E.G.adK 6)]) (rest := []) (by decide +kernel) ok_yX5_isWord mk_RX5_155 (cfX5_isWord (l := E.l) (G := E.G) a0 (by decide) h14) (q0 := 0) rfl rfl rfl rfl rfl rfl (Nat.le_of_ble_eq_true rfl) (Nat.le_of_ble_eq_true rfl) (Nat.le_of_ble_eq_true rfl) ?_
              show V E _ (wdM E.G a0 S0) 194 [(0, .ref (a0 0)), (2, .int q5)] [.int q13]
              refine V_if_eq C (off := 7) (tgt := 201) (by decide +kernel) (by decide) h (fun _ h => ?_) (fun _ h => ?_)
              · refine V_pb C hn [(.aload_n 0, 1)] (pc' := 202) (ls' := [(0, .ref (a0 0)), (2, .int q5)]) (st' := [.ref (a0 0)]) (decB_ok (by decide +kernel)) rfl rfl ?_
                refine V_ldcS C (by decide +kernel) (sr_16) ?_
                obtain ⟨q15, h16, h⟩ := bnd h
                refine V_callV0 C (As := [.ref (E.G.adK 7)]) (rest := []) (by decide +kernel) ok_yX5_isWord mk_RX5_155 (cfX5_isWord (l := E.l) (G := E.G) a0 (by decide) h16) (q0 := 0) rfl rfl rfl rfl rfl rfl (Nat.le_of_ble_eq_true rfl) (Nat.le_of_ble_eq_true rfl) (Nat.le_of_ble_eq_true rfl) ?_
                show V E _ (wdM E.G a0 S0) 207 [(0, .ref (a0 0)), (2, .int q5)] [.int q15]
                refine V_if_eq C (off := 7) (tgt := 214) (by decide +kernel) (by decide) h (fun _ h => ?_) (fun _ h => ?_)
                · refine V_pb C hn [(.aload_n 0, 1)] (pc' := 215) (ls' := [(0, .ref (a0 0)), (2, .int q5)]) (st' := [.ref (a0 0)]) (decB_ok (by decide +kernel)) rfl rfl ?_
                  refine V_ldcS C (by decide +kernel) (sr_17) ?_
                  obtain ⟨q17, h18, h⟩ := bnd h
                  refine V_callV0 C (As := [.ref (E.G.adK 8)]) (rest := []) (by decide +kernel) ok_yX5_isWord mk_RX5_155 (cfX5_isWord (l := E.l) (G := E.G) a0 (by decide) h18) (q0 := 0) rfl rfl rfl rfl rfl rfl (Nat.le_of_ble_eq_true rfl) (Nat.le_of_ble_eq_true rfl) (Nat.le_of_ble_eq_true rfl) ?_
                  show V E _ (wdM E.G a0 S0) 220 [(0, .ref (a0 0)), (2, .int q5)] [.int q17]
                  refine V_if_eq C (off := 7) (tgt := 227) (by decide +kernel) (by decide) h (fun _ h => ?_) (fun _ h => ?_)
                  · refine V_pb C hn [(.iconst (-1), 1)] (pc' := 228) (ls' := [(0, .ref (a0 0)), (2, .int q5)]) (st' := [.int (cI (-1))]) (decB_ok (by decide +kernel)) rfl rfl ?_
                    refine V_sub (ls' := [(0, .ref (a0 0))]) rfl ?_
                    exact cfX5_statement_j228 C hn h
                  · refine V_pb C hn [(.iconst 4, 1)] (pc' := 224) (ls' := [(0, .ref (a0 0)), (2, .int q5)]) (st' := [.int (4 : Int32)]) (decB_ok (by decide +kernel)) rfl rfl ?_
                    refine V_goto C (off := 4) (tgt := 228) (by decide +kernel) (by decide) ?_
                    refine V_sub (ls' := [(0, .ref (a0 0))]) rfl ?_
                    exact cfX5_statement_j228 C hn h
                · refine V_pb C hn [(.iconst 3, 1)] (pc' := 211) (ls' := [(0, .ref (a0 0)), (2, .int q5)]) (st' := [.int (3 : Int32)]) (decB_ok (by decide +kernel)) rfl rfl ?_
                  refine V_goto C (off := 17) (tgt := 228) (by decide +kernel) (by decide) ?_
                  refine V_sub (ls' := [(0, .ref (a0 0))]) rfl ?_
                  exact cfX5_statement_j228 C hn h
              · refine V_pb C hn [(.iconst 2, 1)] (pc' := 198) (ls' := [(0, .ref (a0 0)), (2, .int q5)]) (st' := [.int (2 : Int32)]) (decB_ok (by decide +kernel)) rfl rfl ?_
                refine V_goto C (off := 30) (tgt := 228) (by decide +kernel) (by decide) ?_
                refine V_sub (ls' := [(0, .ref (a0 0))]) rfl ?_
                exact cfX5_statement_j228 C hn h
            · refine V_pb C hn [(.iconst 1, 1)] (pc' := 185) (ls' := [(0, .ref (a0 0)), (2, .int q5)]) (st' := [.int (1 : Int32)]) (decB_ok (by decide +kernel)) rfl rfl ?_
              refine V_goto C (off := 43) (tgt := 228) (by decide +kernel) (by decide) ?_
              refine V_sub (ls' := [(0, .ref (a0 0))]) rfl ?_
              exact cfX5_statement_j228 C hn h
          · refine V_pb C hn [(.iconst 0, 1)] (pc' := 172) (ls' := [(0, .ref (a0 0)), (2, .int q5)]) (st' := [.int (0 : Int32)]) (decB_ok (by decide +kernel)) rfl rfl ?_
            refine V_goto C (off := 56) (tgt := 228) (by decide +kernel) (by decide) ?_
            refine V_sub (ls' := [(0, .ref (a0 0))]) rfl ?_
            exact cfX5_statement_j228 C hn h
        · refine V_sub (ls' := [(0, .ref (a0 0)), (2, .int q5)]) rfl ?_
          exact cfX5_statement_j140 C hn h
      · refine V_sub (ls' := [(0, .ref (a0 0)), (2, .int q5)]) rfl ?_
        exact cfX5_statement_j140 C hn h
    · refine V_pb C hn [(.aload_n 0, 1)] (pc' := 44) (ls' := [(0, .ref (a0 0))]) (st' := [.ref (a0 0)]) (decB_ok (by decide +kernel)) rfl rfl ?_
      refine V_get C (v := .int (m_motes S0)) (by decide +kernel) 0 1 fk_RX5_60 rfl rfl ?_
      refine V_pb C hn [(.bipush 10, 2)] (pc' := 49) (ls' := [(0, .ref (a0 0))]) (st' := [.int (10 : Int32), .int (m_motes S0)]) (decB_ok (by decide +kernel)) rfl rfl ?_
      refine V_ic_ne C (off := 5) (tgt := 54) (by decide +kernel) (by decide) h (fun _ h => ?_) (fun _ h => ?_)
      · refine V_pb C hn [(.iconst 0, 1)] (pc' := 53) (ls' := [(0, .ref (a0 0))]) (st' := [.int (0 : Int32)]) (decB_ok (by decide +kernel)) rfl rfl ?_
        have h := Option.some.inj h
        subst h
        exact V_iret C (v := (0 : Int32)) (by decide +kernel) nb0
      · refine V_pb C hn [(.aload_n 0, 1), (.iconst 0, 1), (.iconst 5, 1)] (pc' := 57) (ls' := [(0, .ref (a0 0))]) (st' := [.int (5 : Int32), .int (0 : Int32), .ref (a0 0)]) (decB_ok (by decide +kernel)) rfl rfl ?_
        obtain ⟨q29, h30, h⟩ := bnd h
        refine V_callV0 C (As := [.int (0 : Int32), .int (5 : Int32)]) (rest := []) (by decide +kernel) ok_yX5_number mk_RX5_159 (cfX5_number (l := E.l) (G := E.G) a0 h30) (q0 := 0) rfl rfl rfl rfl rfl rfl (Nat.le_of_ble_eq_true rfl) (Nat.le_of_ble_eq_true rfl) (Nat.le_of_ble_eq_true rfl) ?_
        show V E _ (wdM E.G a0 q29.2) 60 [(0, .ref (a0 0))] [.int q29.1]
        refine V_pb C hn [(.istore_n 1, 1), (.iload_n 1, 1), (.iconst (-1), 1)] (pc' := 63) (ls' := [(0, .ref (a0 0)), (1, .int q29.1)]) (st' := [.int (cI (-1)), .int q29.1]) (decB_ok (by decide +kernel)) rfl rfl ?_
        refine V_ic_ne C (off := 7) (tgt := 70) (by decide +kernel) (by decide) h (fun _ h => ?_) (fun _ h => ?_)
        · refine V_pb C hn [(.iconst (-1), 1)] (pc' := 67) (ls' := [(0, .ref (a0 0)), (1, .int q29.1)]) (st' := [.int (cI (-1))]) (decB_ok (by decide +kernel)) rfl rfl ?_
          refine V_goto C (off := 10) (tgt := 77) (by decide +kernel) (by decide) ?_
          refine V_sub (ls' := [(0, .ref (a0 0)), (1, .int q29.1)]) rfl ?_
          exact cfX5_statement_j77 C hn h
        · refine V_pb C hn [(.aload_n 0, 1), (.iconst 0, 1), (.bipush 9, 2)] (pc' := 74) (ls' := [(0, .ref (a0 0)), (1, .int q29.1)]) (st' := [.int (9 : Int32), .int (0 : Int32), .ref (a0 0)]) (decB_ok (by decide +kernel)) rfl rfl ?_
          obtain ⟨q37, h38, h⟩ := bnd h
          refine V_callV0 C (As := [.int (0 : Int32), .int (9 : Int32)]) (rest := []) (by decide +kernel) ok_yX5_number mk_RX5_159 (cfX5_number (l := E.l) (G := E.G) a0 h38) (q0 := 0) rfl rfl rfl rfl rfl rfl (Nat.le_of_ble_eq_true rfl) (Nat.le_of_ble_eq_true rfl) (Nat.le_of_ble_eq_true rfl) ?_
          show V E _ (wdM E.G a0 q37.2) 77 [(0, .ref (a0 0)), (1, .int q29.1)] [.int q37.1]
          refine V_sub (ls' := [(0, .ref (a0 0)), (1, .int q29.1)]) rfl ?_
          exact cfX5_statement_j77 C hn h
  · refine V_pb C hn [(.aload_n 0, 1), (.aload_n 0, 1)] (pc' := 11) (ls' := [(0, .ref (a0 0))]) (st' := [.ref (a0 0), .ref (a0 0)]) (decB_ok (by decide +kernel)) rfl rfl ?_
    refine V_get C (v := .int (m_n S0)) (by decide +kernel) 0 0 fk_RX5_53 rfl rfl ?_
    refine V_pb C hn [(.bipush 7, 2)] (pc' := 16) (ls' := [(0, .ref (a0 0))]) (st' := [.int (7 : Int32), .int (m_n S0), .ref (a0 0)]) (decB_ok (by decide +kernel)) rfl rfl ?_
    obtain ⟨q39, h40, h⟩ := bnd h
    refine V_callV0 C (As := [.int (m_n S0), .int (7 : Int32)]) (rest := []) (by decide +kernel) ok_yX5_number mk_RX5_159 (cfX5_number (l := E.l) (G := E.G) a0 h40) (q0 := 0) rfl rfl rfl rfl rfl rfl (Nat.le_of_ble_eq_true rfl) (Nat.le_of_ble_eq_true rfl) (Nat.le_of_ble_eq_true rfl) ?_
    show V E _ (wdM E.G a0 q39.2) 19 [(0, .ref (a0 0))] [.int q39.1]
    refine V_pb C hn [(.istore_n 1, 1), (.iload_n 1, 1), (.iconst (-1), 1)] (pc' := 22) (ls' := [(0, .ref (a0 0)), (1, .int q39.1)]) (st' := [.int (cI (-1)), .int q39.1]) (decB_ok (by decide +kernel)) rfl rfl ?_
    refine V_ic_ne C (off := 5) (tgt := 27) (by decide +kernel) (by decide) h (fun _ h => ?_) (fun _ h => ?_)
    · refine V_pb C hn [(.iconst 0, 1)] (pc' := 26) (ls' := [(0, .ref (a0 0)), (1, .int q39.1)]) (st' := [.int (0 : Int32)]) (decB_ok (by decide +kernel)) rfl rfl ?_
      have h := Option.some.inj h
      subst h
      exact V_iret C (v := (0 : Int32)) (by decide +kernel) nb0
    · refine V_pb C hn [(.aload_n 0, 1), (.iload_n 1, 1)] (pc' := 29) (ls' := [(0, .ref (a0 0)), (1, .int q39.1)]) (st' := [.int q39.1, .ref (a0 0)]) (decB_ok (by decide +kernel)) rfl rfl ?_
      obtain ⟨w41, e42, h⟩ := bnd h
      refine V_put C (v := .int q39.1) (ws' := wdM E.G a0 w41) (by decide +kernel) 0 0 pk_RX5_53 rfl rfl rfl (Nat.le_of_ble_eq_true rfl) (by cases e42; rfl) ?_
      refine V_pb C hn [(.iconst 1, 1)] (pc' := 33) (ls' := [(0, .ref (a0 0)), (1, .int q39.1)]) (st' := [.int (1 : Int32)]) (decB_ok (by decide +kernel)) rfl rfl ?_
      have h := Option.some.inj h
      subst h
      exact V_iret C (v := (1 : Int32)) (by decide +kernel) nb1
set_option maxRecDepth 100000 in
set_option maxHeartbeats 400000 in
theorem cfX5_again_old_j72 {E : VE} (C : Ctx E cX5_again RX5 0 none) (hn : E.nL = 3) {a0 : Nat → Nat} {S0 : MT} {out : MT} (h : fX5_again_old_j72 S0 = some out) : V E (QR E none (wdM E.G a0 out)) (wdM E.G a0 S0) 72 [(0, .ref (a0 0)), (1, .ref (a0 10))] [] := by
  unfold fX5_again_old_j72 at h
  refine V_pb C hn [(.aload_n 0, 1), (.aload_n 1, 1), (.bipush 35, 2)] (pc' := 76) (ls' := [(0, .ref (a0 0)), (1, .ref (a0 10))]) (st' := [.int (35 : Int32), .ref (a0 10), .ref (a0 0)]) (decB_ok (by decide +kernel)) rfl rfl ?_
  refine V_iald C (f := (m_old S0)) (by decide +kernel) 10 rfl h (fun h => ?_)
  obtain ⟨x1, e2, h⟩ := bnd h
  refine V_topi e2 ?_
  obtain ⟨w3, e4, h⟩ := bnd h
  refine V_put C (v := .int x1) (ws' := wdM E.G a0 w3) (by decide +kernel) 0 0 pk_RX5_53 rfl rfl rfl (Nat.le_of_ble_eq_true rfl) (by cases e4; rfl) ?_
  refine V_pb C hn [(.aload_n 0, 1), (.aload_n 1, 1), (.bipush 36, 2)] (pc' := 84) (ls' := [(0, .ref (a0 0)), (1, .ref (a0 10))]) (st' := [.int (36 : Int32), .ref (a0 10), .ref (a0 0)]) (decB_ok (by decide +kernel)) rfl rfl ?_
  refine V_iald C (f := (m_old w3)) (by decide +kernel) 10 rfl h (fun h => ?_)
  obtain ⟨x5, e6, h⟩ := bnd h
  refine V_topi e6 ?_
  obtain ⟨w7, e8, h⟩ := bnd h
  refine V_put C (v := .int x5) (ws' := wdM E.G a0 w7) (by decide +kernel) 0 1 pk_RX5_60 rfl rfl rfl (Nat.le_of_ble_eq_true rfl) (by cases e8; rfl) ?_
  refine V_pb C hn [(.aload_n 0, 1), (.aload_n 1, 1), (.bipush 37, 2)] (pc' := 92) (ls' := [(0, .ref (a0 0)), (1, .ref (a0 10))]) (st' := [.int (37 : Int32), .ref (a0 10), .ref (a0 0)]) (decB_ok (by decide +kernel)) rfl rfl ?_
  refine V_iald C (f := (m_old w7)) (by decide +kernel) 10 rfl h (fun h => ?_)
  obtain ⟨x9, e10, h⟩ := bnd h
  refine V_topi e10 ?_
  obtain ⟨w11, e12, h⟩ := bnd h
  refine V_put C (v := .int x9) (ws' := wdM E.G a0 w11) (by decide +kernel) 0 5 pk_RX5_109 rfl rfl rfl (Nat.le_of_ble_eq_true rfl) (by cases e12; rfl) ?_
  refine V_pb C hn [(.aload_n 0, 1), (.aload_n 1, 1), (.bipush 38, 2)] (pc' := 100) (ls' := [(0, .ref (a0 0)), (1, .ref (a0 10))]) (st' := [.int (38 : Int32), .ref (a0 10), .ref (a0 0)]) (decB_ok (by decide +kernel)) rfl rfl ?_
  refine V_iald C (f := (m_old w11)) (by decide +kernel) 10 rfl h (fun h => ?_)
  obtain ⟨x13, e14, h⟩ := bnd h
  refine V_topi e14 ?_
  obtain ⟨w15, e16, h⟩ := bnd h
  refine V_put C (v := .int x13) (ws' := wdM E.G a0 w15) (by decide +kernel) 0 7 pk_RX5_57 rfl rfl rfl (Nat.le_of_ble_eq_true rfl) (by cases e16; rfl) ?_
  have h := Option.some.inj h
  subst h
  exact V_vret C (by decide +kernel)
set_option maxRecDepth 100000 in
set_option maxHeartbeats 400000 in
theorem cfX5_again_old_L49 {E : VE} (C : Ctx E cX5_again RX5 0 none) (hn : E.nL = 3) {a0 : Nat → Nat} {out : MT} : ∀ (n : Nat) (v2 : Int32) (S0 : MT), fX5_again_old_L49 n v2 S0 = some out → V E (QR E none (wdM E.G a0 out)) (wdM E.G a0 S0) 49 [(0, .ref (a0 0)), (1, .ref (a0 10)), (2, .int v2)] [] := by
  intro n
  induction n with
  | zero =>
    intro v2 S0 h
    cases h
  | succ n ih =>
    intro v2 S0 h
    unfold fX5_again_old_L49 at h
    refine V_pb C hn [(.iload_n 2, 1), (.iconst 5, 1)] (pc' := 51) (ls' := [(0, .ref (a0 0)), (1, .ref (a0 10)), (2, .int v2)]) (st' := [.int (5 : Int32), .int v2]) (decB_ok (by decide +kernel)) rfl rfl ?_
    refine V_ic_ge C (off := 21) (tgt := 72) (by decide +kernel) (by decide) h (fun _ h => ?_) (fun _ h => ?_)
    · refine V_sub (ls' := [(0, .ref (a0 0)), (1, .ref (a0 10))]) rfl ?_
      exact cfX5_again_old_j72 C hn h
    · refine V_pb C hn [(.aload_n 0, 1)] (pc' := 55) (ls' := [(0, .ref (a0 0)), (1, .ref (a0 10)), (2, .int v2)]) (st' := [.ref (a0 0)]) (decB_ok (by decide +kernel)) rfl rfl ?_
      refine V_get C (v := .ref (a0 4)) (by decide +kernel) 0 6 fk_RX5_19 rfl rfl ?_
      refine V_pb C hn [(.iload_n 2, 1), (.aload_n 1, 1), (.bipush 30, 2), (.iload_n 2, 1), (.iadd, 1)] (pc' := 64) (ls' := [(0, .ref (a0 0)), (1, .ref (a0 10)), (2, .int v2)]) (st' := [.int ((30 : Int32) + v2), .ref (a0 10), .int v2, .ref (a0 4)]) (decB_ok (by decide +kernel)) rfl rfl ?_
      refine V_iald C (f := (m_old S0)) (by decide +kernel) 10 rfl h (fun h => ?_)
      obtain ⟨x17, e18, h⟩ := bnd h
      refine V_topi e18 ?_
      obtain ⟨hb9, h⟩ := gd_some h
      obtain ⟨w19, e20, h⟩ := bnd h
      refine V_iast C (f := (m_ways S0)) (ws' := wdM E.G a0 w19) (by decide +kernel) 4 rfl (o := some ()) (out := ()) (by rw [hb9]; rfl) (by cases e20; rfl) (fun _ => ?_)
      refine V_pb C hn [(.iinc 2 1, 3)] (pc' := 69) (ls' := [(0, .ref (a0 0)), (1, .ref (a0 10)), (2, .int (v2 + (1 : Int32)))]) (st' := []) (decB_ok (by decide +kernel)) rfl rfl ?_
      refine V_goto C (off := -20) (tgt := 49) (by decide +kernel) (by decide) ?_
      refine V_sub (ls' := [(0, .ref (a0 0)), (1, .ref (a0 10)), (2, .int (v2 + (1 : Int32)))]) rfl ?_
      exact ih _ _ h
set_option maxRecDepth 100000 in
set_option maxHeartbeats 400000 in
theorem cfX5_again_old_L2 {E : VE} (C : Ctx E cX5_again RX5 0 none) (hn : E.nL = 3) {a0 : Nat → Nat} {out : MT} : ∀ (n : Nat) (v2 : Int32) (S0 : MT), fX5_again_old_L2 n v2 S0 = some out → V E (QR E none (wdM E.G a0 out)) (wdM E.G a0 S0) 2 [(0, .ref (a0 0)), (1, .ref (a0 10)), (2, .int v2)] [] := by
  intro n
  induction n with
  | zero =>
    intro v2 S0 h
    cases h
  | succ n ih =>
    intro v2 S0 h
    unfold fX5_again_old_L2 at h
    refine V_pb C hn [(.iload_n 2, 1), (.bipush 10, 2)] (pc' := 5) (ls' := [(0, .ref (a0 0)), (1, .ref (a0 10)), (2, .int v2)]) (st' := [.int (10 : Int32), .int v2]) (decB_ok (by decide +kernel)) rfl rfl ?_
    refine V_ic_ge C (off := 42) (tgt := 47) (by decide +kernel) (by decide) h (fun _ h => ?_) (fun _ h => ?_)
    · refine V_pb C hn [(.iconst 0, 1), (.istore_n 2, 1)] (pc' := 49) (ls' := [(0, .ref (a0 0)), (1, .ref (a0 10)), (2, .int (0 : Int32))]) (st' := []) (decB_ok (by decide +kernel)) rfl rfl ?_
      refine V_sub (ls' := [(0, .ref (a0 0)), (1, .ref (a0 10)), (2, .int (0 : Int32))]) rfl ?_
      exact cfX5_again_old_L49 C hn FU _ _ h
    · refine V_pb C hn [(.aload_n 0, 1)] (pc' := 9) (ls' := [(0, .ref (a0 0)), (1, .ref (a0 10)), (2, .int v2)]) (st' := [.ref (a0 0)]) (decB_ok (by decide +kernel)) rfl rfl ?_
      refine V_get C (v := .ref (a0 1)) (by decide +kernel) 0 2 fk_RX5_7 rfl rfl ?_
      refine V_pb C hn [(.iload_n 2, 1), (.aload_n 1, 1), (.iload_n 2, 1)] (pc' := 15) (ls' := [(0, .ref (a0 0)), (1, .ref (a0 10)), (2, .int v2)]) (st' := [.int v2, .ref (a0 10), .int v2, .ref (a0 1)]) (decB_ok (by decide +kernel)) rfl rfl ?_
      refine V_iald C (f := (m_old S0)) (by decide +kernel) 10 rfl h (fun h => ?_)
      obtain ⟨x21, e22, h⟩ := bnd h
      refine V_topi e22 ?_
      obtain ⟨hb9, h⟩ := gd_some h
      obtain ⟨w23, e24, h⟩ := bnd h
      refine V_iast C (f := (m_kind S0)) (ws' := wdM E.G a0 w23) (by decide +kernel) 1 rfl (o := some ()) (out := ()) (by rw [hb9]; rfl) (by cases e24; rfl) (fun _ => ?_)
      refine V_pb C hn [(.aload_n 0, 1)] (pc' := 18) (ls' := [(0, .ref (a0 0)), (1, .ref (a0 10)), (2, .int v2)]) (st' := [.ref (a0 0)]) (decB_ok (by decide +kernel)) rfl rfl ?_
      refine V_get C (v := .ref (a0 2)) (by decide +kernel) 0 3 fk_RX5_13 rfl rfl ?_
      refine V_pb C hn [(.iload_n 2, 1), (.aload_n 1, 1), (.bipush 10, 2), (.iload_n 2, 1), (.iadd, 1)] (pc' := 27) (ls' := [(0, .ref (a0 0)), (1, .ref (a0 10)), (2, .int v2)]) (st' := [.int ((10 : Int32) + v2), .ref (a0 10), .int v2, .ref (a0 2)]) (decB_ok (by decide +kernel)) rfl rfl ?_
      refine V_iald C (f := (m_old w23)) (by decide +kernel) 10 rfl h (fun h => ?_)
      obtain ⟨x25, e26, h⟩ := bnd h
      refine V_topi e26 ?_
      obtain ⟨hb9, h⟩ := gd_some h
      obtain ⟨w27, e28, h⟩ := bnd h
      refine V_iast C (f := (m_own w23)) (ws' := wdM E.G a0 w27) (by decide +kernel) 2 rfl (o := some ()) (out := ()) (by rw [hb9]; rfl) (by cases e28; rfl) (fun _ => ?_)
      refine V_pb C hn [(.aload_n 0, 1)] (pc' := 30) (ls' := [(0, .ref (a0 0)), (1, .ref (a0 10)), (2, .int v2)]) (st' := [.ref (a0 0)]) (decB_ok (by decide +kernel)) rfl rfl ?_
      refine V_get C (v := .ref (a0 3)) (by decide +kernel) 0 4 fk_RX5_16 rfl rfl ?_
      refine V_pb C hn [(.iload_n 2, 1), (.aload_n 1, 1), (.bipush 20, 2), (.iload_n 2, 1), (.iadd, 1)] (pc' := 39) (ls' := [(0, .ref (a0 0)), (1, .ref (a0 10)), (2, .int v2)]) (st' := [.int ((20 : Int32) + v2), .ref (a0 10), .int v2, .ref (a0 3)]) (decB_ok (by decide +kernel)) rfl rfl ?_
      refine V_iald C (f := (m_old w27)) (by decide +kernel) 10 rfl h (fun h => ?_)
      obtain ⟨x29, e30, h⟩ := bnd h
      refine V_topi e30 ?_
      obtain ⟨hb9, h⟩ := gd_some h
      obtain ⟨w31, e32, h⟩ := bnd h
      refine V_iast C (f := (m_cell w27)) (ws' := wdM E.G a0 w31) (by decide +kernel) 3 rfl (o := some ()) (out := ()) (by rw [hb9]; rfl) (by cases e32; rfl) (fun _ => ?_)
      refine V_pb C hn [(.iinc 2 1, 3)] (pc' := 44) (ls' := [(0, .ref (a0 0)), (1, .ref (a0 10)), (2, .int (v2 + (1 : Int32)))]) (st' := []) (decB_ok (by decide +kernel)) rfl rfl ?_
      refine V_goto C (off := -42) (tgt := 2) (by decide +kernel) (by decide) ?_
      refine V_sub (ls' := [(0, .ref (a0 0)), (1, .ref (a0 10)), (2, .int (v2 + (1 : Int32)))]) rfl ?_
      exact ih _ _ h
set_option maxRecDepth 100000 in
set_option maxHeartbeats 400000 in
theorem cfX5_again_old {l : Launch} {G : GG} (a0 : Nat → Nat) {S0 : MT} {out : MT} (h : fX5_again_old S0 = some out) : Con l G 0 yX5_again cX5_again 3 none [.ref (a0 0), .ref (a0 10)] (wdM G a0 S0) none (wdM G a0 out) := by
  refine Con_of (by decide +kernel) (Nat.le_of_ble_eq_true rfl) (fun E hl hG hn C => ?_)
  subst hl
  subst hG
  have C : Ctx E cX5_again RX5 0 none := C
  show V E _ _ 0 [(0, .ref (a0 0)), (1, .ref (a0 10))] []
  unfold fX5_again_old at h
  refine V_pb C hn [(.iconst 0, 1), (.istore_n 2, 1)] (pc' := 2) (ls' := [(0, .ref (a0 0)), (1, .ref (a0 10)), (2, .int (0 : Int32))]) (st' := []) (decB_ok (by decide +kernel)) rfl rfl ?_
  refine V_sub (ls' := [(0, .ref (a0 0)), (1, .ref (a0 10)), (2, .int (0 : Int32))]) rfl ?_
  exact cfX5_again_old_L2 C hn FU _ _ h
set_option maxRecDepth 100000 in
set_option maxHeartbeats 400000 in
theorem cfX5_again_ahead_j72 {E : VE} (C : Ctx E cX5_again RX5 0 none) (hn : E.nL = 3) {a0 : Nat → Nat} {S0 : MT} {out : MT} (h : fX5_again_ahead_j72 S0 = some out) : V E (QR E none (wdM E.G a0 out)) (wdM E.G a0 S0) 72 [(0, .ref (a0 0)), (1, .ref (a0 11))] [] := by
  unfold fX5_again_ahead_j72 at h
  refine V_pb C hn [(.aload_n 0, 1), (.aload_n 1, 1), (.bipush 35, 2)] (pc' := 76) (ls' := [(0, .ref (a0 0)), (1, .ref (a0 11))]) (st' := [.int (35 : Int32), .ref (a0 11), .ref (a0 0)]) (decB_ok (by decide +kernel)) rfl rfl ?_
  refine V_iald C (f := (m_ahead S0)) (by decide +kernel) 11 rfl h (fun h => ?_)
  obtain ⟨x1, e2, h⟩ := bnd h
  refine V_topi e2 ?_
  obtain ⟨w3, e4, h⟩ := bnd h
  refine V_put C (v := .int x1) (ws' := wdM E.G a0 w3) (by decide +kernel) 0 0 pk_RX5_53 rfl rfl rfl (Nat.le_of_ble_eq_true rfl) (by cases e4; rfl) ?_
  refine V_pb C hn [(.aload_n 0, 1), (.aload_n 1, 1), (.bipush 36, 2)] (pc' := 84) (ls' := [(0, .ref (a0 0)), (1, .ref (a0 11))]) (st' := [.int (36 : Int32), .ref (a0 11), .ref (a0 0)]) (decB_ok (by decide +kernel)) rfl rfl ?_
  refine V_iald C (f := (m_ahead w3)) (by decide +kernel) 11 rfl h (fun h => ?_)
  obtain ⟨x5, e6, h⟩ := bnd h
  refine V_topi e6 ?_
  obtain ⟨w7, e8, h⟩ := bnd h
  refine V_put C (v := .int x5) (ws' := wdM E.G a0 w7) (by decide +kernel) 0 1 pk_RX5_60 rfl rfl rfl (Nat.le_of_ble_eq_true rfl) (by cases e8; rfl) ?_
  refine V_pb C hn [(.aload_n 0, 1), (.aload_n 1, 1), (.bipush 37, 2)] (pc' := 92) (ls' := [(0, .ref (a0 0)), (1, .ref (a0 11))]) (st' := [.int (37 : Int32), .ref (a0 11), .ref (a0 0)]) (decB_ok (by decide +kernel)) rfl rfl ?_
  refine V_iald C (f := (m_ahead w7)) (by decide +kernel) 11 rfl h (fun h => ?_)
  obtain ⟨x9, e10, h⟩ := bnd h
  refine V_topi e10 ?_
  obtain ⟨w11, e12, h⟩ := bnd h
  refine V_put C (v := .int x9) (ws' := wdM E.G a0 w11) (by decide +kernel) 0 5 pk_RX5_109 rfl rfl rfl (Nat.le_of_ble_eq_true rfl) (by cases e12; rfl) ?_
  refine V_pb C hn [(.aload_n 0, 1), (.aload_n 1, 1), (.bipush 38, 2)] (pc' := 100) (ls' := [(0, .ref (a0 0)), (1, .ref (a0 11))]) (st' := [.int (38 : Int32), .ref (a0 11), .ref (a0 0)]) (decB_ok (by decide +kernel)) rfl rfl ?_
  refine V_iald C (f := (m_ahead w11)) (by decide +kernel) 11 rfl h (fun h => ?_)
  obtain ⟨x13, e14, h⟩ := bnd h
  refine V_topi e14 ?_
  obtain ⟨w15, e16, h⟩ := bnd h
  refine V_put C (v := .int x13) (ws' := wdM E.G a0 w15) (by decide +kernel) 0 7 pk_RX5_57 rfl rfl rfl (Nat.le_of_ble_eq_true rfl) (by cases e16; rfl) ?_
  have h := Option.some.inj h
  subst h
  exact V_vret C (by decide +kernel)
set_option maxRecDepth 100000 in
set_option maxHeartbeats 400000 in
theorem cfX5_again_ahead_L49 {E : VE} (C : Ctx E cX5_again RX5 0 none) (hn : E.nL = 3) {a0 : Nat → Nat} {out : MT} : ∀ (n : Nat) (v2 : Int32) (S0 : MT), fX5_again_ahead_L49 n v2 S0 = some out → V E (QR E none (wdM E.G a0 out)) (wdM E.G a0 S0) 49 [(0, .ref (a0 0)), (1, .ref (a0 11)), (2, .int v2)] [] := by
  intro n
  induction n with
  | zero =>
    intro v2 S0 h
    cases h
  | succ n ih =>
    intro v2 S0 h
    unfold fX5_again_ahead_L49 at h
    refine V_pb C hn [(.iload_n 2, 1), (.iconst 5, 1)] (pc' := 51) (ls' := [(0, .ref (a0 0)), (1, .ref (a0 11)), (2, .int v2)]) (st' := [.int (5 : Int32), .int v2]) (decB_ok (by decide +kernel)) rfl rfl ?_
    refine V_ic_ge C (off := 21) (tgt := 72) (by decide +kernel) (by decide) h (fun _ h => ?_) (fun _ h => ?_)
    · refine V_sub (ls' := [(0, .ref (a0 0)), (1, .ref (a0 11))]) rfl ?_
      exact cfX5_again_ahead_j72 C hn h
    · refine V_pb C hn [(.aload_n 0, 1)] (pc' := 55) (ls' := [(0, .ref (a0 0)), (1, .ref (a0 11)), (2, .int v2)]) (st' := [.ref (a0 0)]) (decB_ok (by decide +kernel)) rfl rfl ?_
      refine V_get C (v := .ref (a0 4)) (by decide +kernel) 0 6 fk_RX5_19 rfl rfl ?_
      refine V_pb C hn [(.iload_n 2, 1), (.aload_n 1, 1), (.bipush 30, 2), (.iload_n 2, 1), (.iadd, 1)] (pc' := 64) (ls' := [(0, .ref (a0 0)), (1, .ref (a0 11)), (2, .int v2)]) (st' := [.int ((30 : Int32) + v2), .ref (a0 11), .int v2, .ref (a0 4)]) (decB_ok (by decide +kernel)) rfl rfl ?_
      refine V_iald C (f := (m_ahead S0)) (by decide +kernel) 11 rfl h (fun h => ?_)
      obtain ⟨x17, e18, h⟩ := bnd h
      refine V_topi e18 ?_
      obtain ⟨hb9, h⟩ := gd_some h
      obtain ⟨w19, e20, h⟩ := bnd h
      refine V_iast C (f := (m_ways S0)) (ws' := wdM E.G a0 w19) (by decide +kernel) 4 rfl (o := some ()) (out := ()) (by rw [hb9]; rfl) (by cases e20; rfl) (fun _ => ?_)
      refine V_pb C hn [(.iinc 2 1, 3)] (pc' := 69) (ls' := [(0, .ref (a0 0)), (1, .ref (a0 11)), (2, .int (v2 + (1 : Int32)))]) (st' := []) (decB_ok (by decide +kernel)) rfl rfl ?_
      refine V_goto C (off := -20) (tgt := 49) (by decide +kernel) (by decide) ?_
      refine V_sub (ls' := [(0, .ref (a0 0)), (1, .ref (a0 11)), (2, .int (v2 + (1 : Int32)))]) rfl ?_
      exact ih _ _ h
set_option maxRecDepth 100000 in
set_option maxHeartbeats 400000 in
theorem cfX5_again_ahead_L2 {E : VE} (C : Ctx E cX5_again RX5 0 none) (hn : E.nL = 3) {a0 : Nat → Nat} {out : MT} : ∀ (n : Nat) (v2 : Int32) (S0 : MT), fX5_again_ahead_L2 n v2 S0 = some out → V E (QR E none (wdM E.G a0 out)) (wdM E.G a0 S0) 2 [(0, .ref (a0 0)), (1, .ref (a0 11)), (2, .int v2)] [] := by
  intro n
  induction n with
  | zero =>
    intro v2 S0 h
    cases h
  | succ n ih =>
    intro v2 S0 h
    unfold fX5_again_ahead_L2 at h
    refine V_pb C hn [(.iload_n 2, 1), (.bipush 10, 2)] (pc' := 5) (ls' := [(0, .ref (a0 0)), (1, .ref (a0 11)), (2, .int v2)]) (st' := [.int (10 : Int32), .int v2]) (decB_ok (by decide +kernel)) rfl rfl ?_
    refine V_ic_ge C (off := 42) (tgt := 47) (by decide +kernel) (by decide) h (fun _ h => ?_) (fun _ h => ?_)
    · refine V_pb C hn [(.iconst 0, 1), (.istore_n 2, 1)] (pc' := 49) (ls' := [(0, .ref (a0 0)), (1, .ref (a0 11)), (2, .int (0 : Int32))]) (st' := []) (decB_ok (by decide +kernel)) rfl rfl ?_
      refine V_sub (ls' := [(0, .ref (a0 0)), (1, .ref (a0 11)), (2, .int (0 : Int32))]) rfl ?_
      exact cfX5_again_ahead_L49 C hn FU _ _ h
    · refine V_pb C hn [(.aload_n 0, 1)] (pc' := 9) (ls' := [(0, .ref (a0 0)), (1, .ref (a0 11)), (2, .int v2)]) (st' := [.ref (a0 0)]) (decB_ok (by decide +kernel)) rfl rfl ?_
      refine V_get C (v := .ref (a0 1)) (by decide +kernel) 0 2 fk_RX5_7 rfl rfl ?_
      refine V_pb C hn [(.iload_n 2, 1), (.aload_n 1, 1), (.iload_n 2, 1)] (pc' := 15) (ls' := [(0, .ref (a0 0)), (1, .ref (a0 11)), (2, .int v2)]) (st' := [.int v2, .ref (a0 11), .int v2, .ref (a0 1)]) (decB_ok (by decide +kernel)) rfl rfl ?_
      refine V_iald C (f := (m_ahead S0)) (by decide +kernel) 11 rfl h (fun h => ?_)
      obtain ⟨x21, e22, h⟩ := bnd h
      refine V_topi e22 ?_
      obtain ⟨hb9, h⟩ := gd_some h
      obtain ⟨w23, e24, h⟩ := bnd h
      refine V_iast C (f := (m_kind S0)) (ws' := wdM E.G a0 w23) (by decide +kernel) 1 rfl (o := some ()) (out := ()) (by rw [hb9]; rfl) (by cases e24; rfl) (fun _ => ?_)
      refine V_pb C hn [(.aload_n 0, 1)] (pc' := 18) (ls' := [(0, .ref (a0 0)), (1, .ref (a0 11)), (2, .int v2)]) (st' := [.ref (a0 0)]) (decB_ok (by decide +kernel)) rfl rfl ?_
      refine V_get C (v := .ref (a0 2)) (by decide +kernel) 0 3 fk_RX5_13 rfl rfl ?_
      refine V_pb C hn [(.iload_n 2, 1), (.aload_n 1, 1), (.bipush 10, 2), (.iload_n 2, 1), (.iadd, 1)] (pc' := 27) (ls' := [(0, .ref (a0 0)), (1, .ref (a0 11)), (2, .int v2)]) (st' := [.int ((10 : Int32) + v2), .ref (a0 11), .int v2, .ref (a0 2)]) (decB_ok (by decide +kernel)) rfl rfl ?_
      refine V_iald C (f := (m_ahead w23)) (by decide +kernel) 11 rfl h (fun h => ?_)
      obtain ⟨x25, e26, h⟩ := bnd h
      refine V_topi e26 ?_
      obtain ⟨hb9, h⟩ := gd_some h
      obtain ⟨w27, e28, h⟩ := bnd h
      refine V_iast C (f := (m_own w23)) (ws' := wdM E.G a0 w27) (by decide +kernel) 2 rfl (o := some ()) (out := ()) (by rw [hb9]; rfl) (by cases e28; rfl) (fun _ => ?_)
      refine V_pb C hn [(.aload_n 0, 1)] (pc' := 30) (ls' := [(0, .ref (a0 0)), (1, .ref (a0 11)), (2, .int v2)]) (st' := [.ref (a0 0)]) (decB_ok (by decide +kernel)) rfl rfl ?_
      refine V_get C (v := .ref (a0 3)) (by decide +kernel) 0 4 fk_RX5_16 rfl rfl ?_
      refine V_pb C hn [(.iload_n 2, 1), (.aload_n 1, 1), (.bipush 20, 2), (.iload_n 2, 1), (.iadd, 1)] (pc' := 39) (ls' := [(0, .ref (a0 0)), (1, .ref (a0 11)), (2, .int v2)]) (st' := [.int ((20 : Int32) + v2), .ref (a0 11), .int v2, .ref (a0 3)]) (decB_ok (by decide +kernel)) rfl rfl ?_
      refine V_iald C (f := (m_ahead w27)) (by decide +kernel) 11 rfl h (fun h => ?_)
      obtain ⟨x29, e30, h⟩ := bnd h
      refine V_topi e30 ?_
      obtain ⟨hb9, h⟩ := gd_some h
      obtain ⟨w31, e32, h⟩ := bnd h
      refine V_iast C (f := (m_cell w27)) (ws' := wdM E.G a0 w31) (by decide +kernel) 3 rfl (o := some ()) (out := ()) (by rw [hb9]; rfl) (by cases e32; rfl) (fun _ => ?_)
      refine V_pb C hn [(.iinc 2 1, 3)] (pc' := 44) (ls' := [(0, .ref (a0 0)), (1, .ref (a0 11)), (2, .int (v2 + (1 : Int32)))]) (st' := []) (decB_ok (by decide +kernel)) rfl rfl ?_
      refine V_goto C (off := -42) (tgt := 2) (by decide +kernel) (by decide) ?_
      refine V_sub (ls' := [(0, .ref (a0 0)), (1, .ref (a0 11)), (2, .int (v2 + (1 : Int32)))]) rfl ?_
      exact ih _ _ h
set_option maxRecDepth 100000 in
set_option maxHeartbeats 400000 in
theorem cfX5_again_ahead {l : Launch} {G : GG} (a0 : Nat → Nat) {S0 : MT} {out : MT} (h : fX5_again_ahead S0 = some out) : Con l G 0 yX5_again cX5_again 3 none [.ref (a0 0), .ref (a0 11)] (wdM G a0 S0) none (wdM G a0 out) := by
  refine Con_of (by decide +kernel) (Nat.le_of_ble_eq_true rfl) (fun E hl hG hn C => ?_)
  subst hl
  subst hG
  have C : Ctx E cX5_again RX5 0 none := C
  show V E _ _ 0 [(0, .ref (a0 0)), (1, .ref (a0 11))] []
  unfold fX5_again_ahead at h
  refine V_pb C hn [(.iconst 0, 1), (.istore_n 2, 1)] (pc' := 2) (ls' := [(0, .ref (a0 0)), (1, .ref (a0 11)), (2, .int (0 : Int32))]) (st' := []) (decB_ok (by decide +kernel)) rfl rfl ?_
  refine V_sub (ls' := [(0, .ref (a0 0)), (1, .ref (a0 11)), (2, .int (0 : Int32))]) rfl ?_
  exact cfX5_again_ahead_L2 C hn FU _ _ h
set_option maxRecDepth 100000 in
set_option maxHeartbeats 400000 in
theorem cfX5_hall_j78 {E : VE} (C : Ctx E cX5_hall RX5 6 (some .int)) (hn : E.nL = 3) {a0 : Nat → Nat} {S0 : MT} {out : Int32 × MT} (h : fX5_hall_j78 S0 = some out) : V E (QR E (some (.int out.1)) (wdM E.G a0 out.2)) (wdM E.G a0 S0) 78 [(0, .ref (a0 0))] [] := by
  unfold fX5_hall_j78 at h
  refine V_pb C hn [(.aload_n 0, 1), (.aload_n 0, 1)] (pc' := 80) (ls' := [(0, .ref (a0 0))]) (st' := [.ref (a0 0), .ref (a0 0)]) (decB_ok (by decide +kernel)) rfl rfl ?_
  refine V_get C (v := .ref (a0 11)) (by decide +kernel) 0 20 fk_RX5_41 rfl rfl ?_
  obtain ⟨q5, h6, h⟩ := bnd h
  refine V_callV0 C (As := [.ref (a0 11)]) (rest := []) (by decide +kernel) ok_yX5_again mk_RX5_186 (cfX5_again_ahead (l := E.l) (G := E.G) a0 h6) (q0 := 0) rfl rfl rfl rfl rfl rfl (Nat.le_of_ble_eq_true rfl) (Nat.le_of_ble_eq_true rfl) (Nat.le_of_ble_eq_true rfl) ?_
  show V E _ (wdM E.G a0 q5) 86 [(0, .ref (a0 0))] []
  refine V_pb C hn [(.aload_n 0, 1), (.iconst 0, 1)] (pc' := 88) (ls' := [(0, .ref (a0 0))]) (st' := [.int (0 : Int32), .ref (a0 0)]) (decB_ok (by decide +kernel)) rfl rfl ?_
  obtain ⟨w7, e8, h⟩ := bnd h
  refine V_put C (v := .int (0 : Int32)) (ws' := wdM E.G a0 w7) (by decide +kernel) 0 8 pk_RX5_119 rfl rfl rfl (Nat.le_of_ble_eq_true rfl) (by cases e8; rfl) ?_
  refine V_pb C hn [(.aload_n 0, 1), (.bipush (-2), 2)] (pc' := 94) (ls' := [(0, .ref (a0 0))]) (st' := [.int (cI (-2)), .ref (a0 0)]) (decB_ok (by decide +kernel)) rfl rfl ?_
  obtain ⟨q9, h10, h⟩ := bnd h
  refine V_callV0 C (As := [.int (cI (-2))]) (rest := []) (by decide +kernel) ok_yX5_no mk_RX5_77 (cfX5_no (l := E.l) (G := E.G) a0 h10) (q0 := 0) rfl rfl rfl rfl rfl rfl (Nat.le_of_ble_eq_true rfl) (Nat.le_of_ble_eq_true rfl) (Nat.le_of_ble_eq_true rfl) ?_
  show V E _ (wdM E.G a0 q9.2) 97 [(0, .ref (a0 0))] [.int q9.1]
  refine V_pb C hn [(.pop, 1), (.bipush (-20), 2), (.aload_n 0, 1)] (pc' := 101) (ls' := [(0, .ref (a0 0))]) (st' := [.ref (a0 0), .int (cI (-20))]) (decB_ok (by decide +kernel)) rfl rfl ?_
  refine V_get C (v := .int (m_from q9.2)) (by decide +kernel) 0 10 fk_RX5_125 rfl rfl ?_
  refine V_pb C hn [(.isub, 1)] (pc' := 105) (ls' := [(0, .ref (a0 0))]) (st' := [.int ((cI (-20)) - (m_from q9.2))]) (decB_ok (by decide +kernel)) rfl rfl ?_
  have h := Option.some.inj h
  subst h
  exact V_iret C (by decide +kernel) rfl
set_option maxRecDepth 100000 in
set_option maxHeartbeats 400000 in
theorem cfX5_hall_j74 {E : VE} (C : Ctx E cX5_hall RX5 6 (some .int)) (hn : E.nL = 3) {a0 : Nat → Nat} {v1 : Int32} {s0 : Int32} {S0 : MT} {out : Int32 × MT} {k17 : Int32 → Int32 → MT → Option (Int32 × MT)} (hk17 : ∀ (v1 : Int32) (v2 : Int32) (S0 : MT), k17 v1 v2 S0 = some out → V E (QR E (some (.int out.1)) (wdM E.G a0 out.2)) (wdM E.G a0 S0) 17 [(0, .ref (a0 0)), (1, .int v1), (2, .int v2)] []) (h : fX5_hall_j74 k17 v1 s0 S0 = some out) : V E (QR E (some (.int out.1)) (wdM E.G a0 out.2)) (wdM E.G a0 S0) 74 [(0, .ref (a0 0)), (1, .int v1)] [.int s0] := by
  unfold fX5_hall_j74 at h
  refine V_pb C hn [(.istore_n 2, 1)] (pc' := 75) (ls' := [(0, .ref (a0 0)), (1, .int v1), (2, .int s0)]) (st' := []) (decB_ok (by decide +kernel)) rfl rfl ?_
  refine V_goto C (off := -58) (tgt := 17) (by decide +kernel) (by decide) ?_
  refine V_sub (ls' := [(0, .ref (a0 0)), (1, .int v1), (2, .int s0)]) rfl ?_
  exact hk17 _ _ _ h
set_option maxRecDepth 100000 in
set_option maxHeartbeats 400000 in
theorem cfX5_hall_L17 {E : VE} (C : Ctx E cX5_hall RX5 6 (some .int)) (hn : E.nL = 3) {a0 : Nat → Nat} {out : Int32 × MT} : ∀ (n : Nat) (v1 : Int32) (v2 : Int32) (S0 : MT), fX5_hall_L17 n v1 v2 S0 = some out → V E (QR E (some (.int out.1)) (wdM E.G a0 out.2)) (wdM E.G a0 S0) 17 [(0, .ref (a0 0)), (1, .int v1), (2, .int v2)] [] := by
  intro n
  induction n with
  | zero =>
    intro v1 v2 S0 h
    cases h
  | succ n ih =>
    intro v1 v2 S0 h
    unfold fX5_hall_L17 at h
    refine V_pb C hn [(.iload_n 2, 1)] (pc' := 18) (ls' := [(0, .ref (a0 0)), (1, .int v1), (2, .int v2)]) (st' := [.int v2]) (decB_ok (by decide +kernel)) rfl rfl ?_
    refine V_if_eq C (off := 60) (tgt := 78) (by decide +kernel) (by decide) h (fun _ h => ?_) (fun _ h => ?_)
    · refine V_sub (ls' := [(0, .ref (a0 0))]) rfl ?_
      exact cfX5_hall_j78 C hn h
    · refine V_pb C hn [(.aload_n 0, 1)] (pc' := 22) (ls' := [(0, .ref (a0 0)), (1, .int v1), (2, .int v2)]) (st' := [.ref (a0 0)]) (decB_ok (by decide +kernel)) rfl rfl ?_
      obtain ⟨q11, h12, h⟩ := bnd h
      refine V_callV0 C (As := []) (rest := []) (by decide +kernel) ok_yX5_next mk_RX5_150 (cfX5_next (l := E.l) (G := E.G) a0 h12) (q0 := 0) rfl rfl rfl rfl rfl rfl (Nat.le_of_ble_eq_true rfl) (Nat.le_of_ble_eq_true rfl) (Nat.le_of_ble_eq_true rfl) ?_
      show V E _ (wdM E.G a0 q11) 25 [(0, .ref (a0 0)), (1, .int v1), (2, .int v2)] []
      refine V_pb C hn [(.aload_n 0, 1)] (pc' := 26) (ls' := [(0, .ref (a0 0)), (1, .int v1), (2, .int v2)]) (st' := [.ref (a0 0)]) (decB_ok (by decide +kernel)) rfl rfl ?_
      obtain ⟨q13, h14, h⟩ := bnd h
      refine V_callV0 C (As := []) (rest := []) (by decide +kernel) ok_yX5_statement mk_RX5_182 (cfX5_statement (l := E.l) (G := E.G) a0 h14) (q0 := 0) rfl rfl rfl rfl rfl rfl (Nat.le_of_ble_eq_true rfl) (Nat.le_of_ble_eq_true rfl) (Nat.le_of_ble_eq_true rfl) ?_
      show V E _ (wdM E.G a0 q13.2) 29 [(0, .ref (a0 0)), (1, .int v1), (2, .int v2)] [.int q13.1]
      refine V_pb C hn [(.istore_n 2, 1), (.iload_n 2, 1)] (pc' := 31) (ls' := [(0, .ref (a0 0)), (1, .int v1), (2, .int q13.1)]) (st' := [.int q13.1]) (decB_ok (by decide +kernel)) rfl rfl ?_
      refine V_if_ne C (off := 6) (tgt := 37) (by decide +kernel) (by decide) h (fun _ h => ?_) (fun _ h => ?_)
      · refine V_goto C (off := -17) (tgt := 17) (by decide +kernel) (by decide) ?_
        refine V_sub (ls' := [(0, .ref (a0 0)), (1, .int v1), (2, .int q13.1)]) rfl ?_
        exact ih _ _ _ h
      · refine V_pb C hn [(.iinc 1 1, 3), (.aload_n 0, 1)] (pc' := 41) (ls' := [(0, .ref (a0 0)), (1, .int (v1 + (1 : Int32))), (2, .int q13.1)]) (st' := [.ref (a0 0)]) (decB_ok (by decide +kernel)) rfl rfl ?_
        obtain ⟨q15, h16, h⟩ := bnd h
        refine V_callV0 C (As := []) (rest := []) (by decide +kernel) ok_yX5_next mk_RX5_150 (cfX5_next (l := E.l) (G := E.G) a0 h16) (q0 := 0) rfl rfl rfl rfl rfl rfl (Nat.le_of_ble_eq_true rfl) (Nat.le_of_ble_eq_true rfl) (Nat.le_of_ble_eq_true rfl) ?_
        show V E _ (wdM E.G a0 q15) 44 [(0, .ref (a0 0)), (1, .int (v1 + (1 : Int32))), (2, .int q13.1)] []
        refine V_pb C hn [(.aload_n 0, 1)] (pc' := 45) (ls' := [(0, .ref (a0 0)), (1, .int (v1 + (1 : Int32))), (2, .int q13.1)]) (st' := [.ref (a0 0)]) (decB_ok (by decide +kernel)) rfl rfl ?_
        refine V_get C (v := .int (m_token q15)) (by decide +kernel) 0 12 fk_RX5_128 rfl rfl ?_
        refine V_pb C hn [(.bipush 101, 2)] (pc' := 50) (ls' := [(0, .ref (a0 0)), (1, .int (v1 + (1 : Int32))), (2, .int q13.1)]) (st' := [.int (101 : Int32), .int (m_token q15)]) (decB_ok (by decide +kernel)) rfl rfl ?_
        refine V_ic_ne C (off := 10) (tgt := 60) (by decide +kernel) (by decide) h (fun _ h => ?_) (fun _ h => ?_)
        · refine V_pb C hn [(.aload_n 0, 1), (.iconst 0, 1)] (pc' := 55) (ls' := [(0, .ref (a0 0)), (1, .int (v1 + (1 : Int32))), (2, .int q13.1)]) (st' := [.int (0 : Int32), .ref (a0 0)]) (decB_ok (by decide +kernel)) rfl rfl ?_
          obtain ⟨w17, e18, h⟩ := bnd h
          refine V_put C (v := .int (0 : Int32)) (ws' := wdM E.G a0 w17) (by decide +kernel) 0 8 pk_RX5_119 rfl rfl rfl (Nat.le_of_ble_eq_true rfl) (by cases e18; rfl) ?_
          refine V_pb C hn [(.iload_n 1, 1)] (pc' := 59) (ls' := [(0, .ref (a0 0)), (1, .int (v1 + (1 : Int32))), (2, .int q13.1)]) (st' := [.int (v1 + (1 : Int32))]) (decB_ok (by decide +kernel)) rfl rfl ?_
          have h := Option.some.inj h
          subst h
          exact V_iret C (by decide +kernel) rfl
        · refine V_pb C hn [(.aload_n 0, 1)] (pc' := 61) (ls' := [(0, .ref (a0 0)), (1, .int (v1 + (1 : Int32))), (2, .int q13.1)]) (st' := [.ref (a0 0)]) (decB_ok (by decide +kernel)) rfl rfl ?_
          refine V_get C (v := .int (m_token q15)) (by decide +kernel) 0 12 fk_RX5_128 rfl rfl ?_
          refine V_pb C hn [(.bipush 59, 2)] (pc' := 66) (ls' := [(0, .ref (a0 0)), (1, .int (v1 + (1 : Int32))), (2, .int q13.1)]) (st' := [.int (59 : Int32), .int (m_token q15)]) (decB_ok (by decide +kernel)) rfl rfl ?_
          refine V_ic_ne C (off := 7) (tgt := 73) (by decide +kernel) (by decide) h (fun _ h => ?_) (fun _ h => ?_)
          · refine V_pb C hn [(.iconst 1, 1)] (pc' := 70) (ls' := [(0, .ref (a0 0)), (1, .int (v1 + (1 : Int32))), (2, .int q13.1)]) (st' := [.int (1 : Int32)]) (decB_ok (by decide +kernel)) rfl rfl ?_
            refine V_goto C (off := 4) (tgt := 74) (by decide +kernel) (by decide) ?_
            refine V_sub (ls' := [(0, .ref (a0 0)), (1, .int (v1 + (1 : Int32)))]) rfl ?_
            exact cfX5_hall_j74 C hn (k17 := (fun v1 v2 S0 => fX5_hall_L17 n v1 v2 S0)) (fun v1 v2 S0 h => ih v1 v2 S0 h) h
          · refine V_pb C hn [(.iconst 0, 1)] (pc' := 74) (ls' := [(0, .ref (a0 0)), (1, .int (v1 + (1 : Int32))), (2, .int q13.1)]) (st' := [.int (0 : Int32)]) (decB_ok (by decide +kernel)) rfl rfl ?_
            refine V_sub (ls' := [(0, .ref (a0 0)), (1, .int (v1 + (1 : Int32)))]) rfl ?_
            exact cfX5_hall_j74 C hn (k17 := (fun v1 v2 S0 => fX5_hall_L17 n v1 v2 S0)) (fun v1 v2 S0 h => ih v1 v2 S0 h) h
set_option maxRecDepth 100000 in
set_option maxHeartbeats 400000 in
theorem cfX5_hall {l : Launch} {G : GG} (a0 : Nat → Nat) {S0 : MT} {out : Int32 × MT} (h : fX5_hall S0 = some out) : Con l G 6 yX5_hall cX5_hall 3 (some .int) [.ref (a0 0)] (wdM G a0 S0) (some (.int out.1)) (wdM G a0 out.2) := by
  refine Con_of (by decide +kernel) (Nat.le_of_ble_eq_true rfl) (fun E hl hG hn C => ?_)
  subst hl
  subst hG
  have C : Ctx E cX5_hall RX5 6 (some .int) := C
  show V E _ _ 0 [(0, .ref (a0 0))] []
  unfold fX5_hall at h
  refine V_pb C hn [(.aload_n 0, 1), (.aload_n 0, 1)] (pc' := 2) (ls' := [(0, .ref (a0 0))]) (st' := [.ref (a0 0), .ref (a0 0)]) (decB_ok (by decide +kernel)) rfl rfl ?_
  refine V_get C (v := .ref (a0 11)) (by decide +kernel) 0 20 fk_RX5_41 rfl rfl ?_
  obtain ⟨q1, h2, h⟩ := bnd h
  refine V_callV0 C (As := [.ref (a0 11)]) (rest := []) (by decide +kernel) ok_yX5_keep mk_RX5_178 (cfX5_keep_ahead (l := E.l) (G := E.G) a0 h2) (q0 := 0) rfl rfl rfl rfl rfl rfl (Nat.le_of_ble_eq_true rfl) (Nat.le_of_ble_eq_true rfl) (Nat.le_of_ble_eq_true rfl) ?_
  show V E _ (wdM E.G a0 q1) 8 [(0, .ref (a0 0))] []
  refine V_pb C hn [(.aload_n 0, 1), (.iconst 0, 1)] (pc' := 10) (ls' := [(0, .ref (a0 0))]) (st' := [.int (0 : Int32), .ref (a0 0)]) (decB_ok (by decide +kernel)) rfl rfl ?_
  obtain ⟨w3, e4, h⟩ := bnd h
  refine V_put C (v := .int (0 : Int32)) (ws' := wdM E.G a0 w3) (by decide +kernel) 0 11 pk_RX5_122 rfl rfl rfl (Nat.le_of_ble_eq_true rfl) (by cases e4; rfl) ?_
  refine V_pb C hn [(.iconst 0, 1), (.istore_n 1, 1), (.iconst 1, 1), (.istore_n 2, 1)] (pc' := 17) (ls' := [(0, .ref (a0 0)), (1, .int (0 : Int32)), (2, .int (1 : Int32))]) (st' := []) (decB_ok (by decide +kernel)) rfl rfl ?_
  refine V_sub (ls' := [(0, .ref (a0 0)), (1, .int (0 : Int32)), (2, .int (1 : Int32))]) rfl ?_
  exact cfX5_hall_L17 C hn FU _ _ _ h
set_option maxRecDepth 100000 in
set_option maxHeartbeats 400000 in
theorem cfX5_allWeight_L4 {E : VE} (C : Ctx E cX5_allWeight RX5 0 (some .int)) (hn : E.nL = 3) {a0 : Nat → Nat} {S0 : MT} {out : Int32} : ∀ (n : Nat) (v1 : Int32) (v2 : Int32), fX5_allWeight_L4 S0 n v1 v2 = some out → V E (QR E (some (.int out)) (wdM E.G a0 S0)) (wdM E.G a0 S0) 4 [(0, .ref (a0 0)), (1, .int v1), (2, .int v2)] [] := by
  intro n
  induction n with
  | zero =>
    intro v1 v2 h
    cases h
  | succ n ih =>
    intro v1 v2 h
    unfold fX5_allWeight_L4 at h
    refine V_pb C hn [(.iload_n 2, 1), (.aload_n 0, 1)] (pc' := 6) (ls' := [(0, .ref (a0 0)), (1, .int v1), (2, .int v2)]) (st' := [.ref (a0 0), .int v2]) (decB_ok (by decide +kernel)) rfl rfl ?_
    refine V_get C (v := .int (m_motes S0)) (by decide +kernel) 0 1 fk_RX5_60 rfl rfl ?_
    refine V_ic_ge C (off := 18) (tgt := 27) (by decide +kernel) (by decide) h (fun _ h => ?_) (fun _ h => ?_)
    · refine V_pb C hn [(.iload_n 1, 1)] (pc' := 28) (ls' := [(0, .ref (a0 0)), (1, .int v1), (2, .int v2)]) (st' := [.int v1]) (decB_ok (by decide +kernel)) rfl rfl ?_
      have h := Option.some.inj h
      subst h
      exact V_iret C (by decide +kernel) rfl
    · refine V_pb C hn [(.iload_n 1, 1), (.aload_n 0, 1)] (pc' := 14) (ls' := [(0, .ref (a0 0)), (1, .int v1), (2, .int v2)]) (st' := [.ref (a0 0), .int v1]) (decB_ok (by decide +kernel)) rfl rfl ?_
      refine V_get C (v := .ref (a0 2)) (by decide +kernel) 0 3 fk_RX5_13 rfl rfl ?_
      refine V_pb C hn [(.iload_n 2, 1)] (pc' := 18) (ls' := [(0, .ref (a0 0)), (1, .int v1), (2, .int v2)]) (st' := [.int v2, .ref (a0 2), .int v1]) (decB_ok (by decide +kernel)) rfl rfl ?_
      refine V_iald C (f := (m_own S0)) (by decide +kernel) 2 rfl h (fun h => ?_)
      refine V_pb C hn [(.iadd, 1), (.istore_n 1, 1), (.iinc 2 1, 3)] (pc' := 24) (ls' := [(0, .ref (a0 0)), (1, .int (v1 + ((m_own S0) (ix v2)))), (2, .int (v2 + (1 : Int32)))]) (st' := []) (decB_ok (by decide +kernel)) rfl rfl ?_
      refine V_goto C (off := -20) (tgt := 4) (by decide +kernel) (by decide) ?_
      refine V_sub (ls' := [(0, .ref (a0 0)), (1, .int (v1 + ((m_own S0) (ix v2)))), (2, .int (v2 + (1 : Int32)))]) rfl ?_
      exact ih _ _ h
set_option maxRecDepth 100000 in
set_option maxHeartbeats 400000 in
theorem cfX5_allWeight {l : Launch} {G : GG} (a0 : Nat → Nat) {S0 : MT} {out : Int32} (h : fX5_allWeight S0 = some out) : Con l G 0 yX5_allWeight cX5_allWeight 3 (some .int) [.ref (a0 0)] (wdM G a0 S0) (some (.int out)) (wdM G a0 S0) := by
  refine Con_of (by decide +kernel) (Nat.le_of_ble_eq_true rfl) (fun E hl hG hn C => ?_)
  subst hl
  subst hG
  have C : Ctx E cX5_allWeight RX5 0 (some .int) := C
  show V E _ _ 0 [(0, .ref (a0 0))] []
  unfold fX5_allWeight at h
  refine V_pb C hn [(.iconst 0, 1), (.istore_n 1, 1), (.iconst 0, 1), (.istore_n 2, 1)] (pc' := 4) (ls' := [(0, .ref (a0 0)), (1, .int (0 : Int32)), (2, .int (0 : Int32))]) (st' := []) (decB_ok (by decide +kernel)) rfl rfl ?_
  refine V_sub (ls' := [(0, .ref (a0 0)), (1, .int (0 : Int32)), (2, .int (0 : Int32))]) rfl ?_
  exact cfX5_allWeight_L4 C hn FU _ _ h
set_option maxRecDepth 100000 in
set_option maxHeartbeats 400000 in
theorem cfX5_powerOf_j104 {E : VE} (C : Ctx E cX5_powerOf RX5 1 (some .int)) (hn : E.nL = 7) {a0 : Nat → Nat} {p1 : Int32} {S0 : MT} {v2 : Int32} {v3 : Int32} {v4 : Int32} {out : Int32} {k10 : Int32 → Int32 → Int32 → Option (Int32)} (hk10 : ∀ (v2 : Int32) (v3 : Int32) (v4 : Int32), k10 v2 v3 v4 = some out → V E (QR E (some (.int out)) (wdM E.G a0 S0)) (wdM E.G a0 S0) 10 [(0, .ref (a0 0)), (1, .int p1), (2, .int v2), (3, .int v3), (4, .int v4)] []) (h : fX5_powerOf_j104 k10 p1 S0 v2 v3 v4 = some out) : V E (QR E (some (.int out)) (wdM E.G a0 S0)) (wdM E.G a0 S0) 104 [(0, .ref (a0 0)), (1, .int p1), (2, .int v2), (3, .int v3), (4, .int v4)] [] := by
  unfold fX5_powerOf_j104 at h
  refine V_pb C hn [(.iinc 4 1, 3)] (pc' := 107) (ls' := [(0, .ref (a0 0)), (1, .int p1), (2, .int v2), (3, .int v3), (4, .int (v4 + (1 : Int32)))]) (st' := []) (decB_ok (by decide +kernel)) rfl rfl ?_
  refine V_goto C (off := -97) (tgt := 10) (by decide +kernel) (by decide) ?_
  refine V_sub (ls' := [(0, .ref (a0 0)), (1, .int p1), (2, .int v2), (3, .int v3), (4, .int (v4 + (1 : Int32)))]) rfl ?_
  exact hk10 _ _ _ h
set_option maxRecDepth 100000 in
set_option maxHeartbeats 400000 in
theorem cfX5_powerOf_j78 {E : VE} (C : Ctx E cX5_powerOf RX5 1 (some .int)) (hn : E.nL = 7) {a0 : Nat → Nat} {p1 : Int32} {S0 : MT} {v2 : Int32} {v3 : Int32} {v4 : Int32} {v5 : Int32} {out : Int32} {k10 : Int32 → Int32 → Int32 → Option (Int32)} (hk10 : ∀ (v2 : Int32) (v3 : Int32) (v4 : Int32), k10 v2 v3 v4 = some out → V E (QR E (some (.int out)) (wdM E.G a0 S0)) (wdM E.G a0 S0) 10 [(0, .ref (a0 0)), (1, .int p1), (2, .int v2), (3, .int v3), (4, .int v4)] []) (h : fX5_powerOf_j78 k10 p1 S0 v2 v3 v4 v5 = some out) : V E (QR E (some (.int out)) (wdM E.G a0 S0)) (wdM E.G a0 S0) 78 [(0, .ref (a0 0)), (1, .int p1), (2, .int v2), (3, .int v3), (4, .int v4), (5, .int v5)] [] := by
  unfold fX5_powerOf_j78 at h
  refine V_pb C hn [(.iconst 2, 1), (.iload 5, 2), (.imul, 1), (.iload_n 2, 1)] (pc' := 83) (ls' := [(0, .ref (a0 0)), (1, .int p1), (2, .int v2), (3, .int v3), (4, .int v4), (5, .int v5)]) (st' := [.int v2, .int ((2 : Int32) * v5)]) (decB_ok (by decide +kernel)) rfl rfl ?_
  refine V_ic_gt C (off := 21) (tgt := 104) (by decide +kernel) (by decide) h (fun _ h => ?_) (fun _ h => ?_)
  · refine V_sub (ls' := [(0, .ref (a0 0)), (1, .int p1), (2, .int v2), (3, .int v3), (4, .int v4)]) rfl ?_
    exact cfX5_powerOf_j104 C hn (k10 := k10) (hk10) h
  · refine V_pb C hn [(.iconst 2, 1), (.iload 5, 2), (.aload_n 0, 1)] (pc' := 90) (ls' := [(0, .ref (a0 0)), (1, .int p1), (2, .int v2), (3, .int v3), (4, .int v4), (5, .int v5)]) (st' := [.ref (a0 0), .int v5, .int (2 : Int32)]) (decB_ok (by decide +kernel)) rfl rfl ?_
    refine V_get C (v := .ref (a0 2)) (by decide +kernel) 0 3 fk_RX5_13 rfl rfl ?_
    refine V_pb C hn [(.iload_n 1, 1)] (pc' := 94) (ls' := [(0, .ref (a0 0)), (1, .int p1), (2, .int v2), (3, .int v3), (4, .int v4), (5, .int v5)]) (st' := [.int p1, .ref (a0 2), .int v5, .int (2 : Int32)]) (decB_ok (by decide +kernel)) rfl rfl ?_
    refine V_iald C (f := (m_own S0)) (by decide +kernel) 2 rfl h (fun h => ?_)
    refine V_pb C hn [(.iadd, 1), (.imul, 1), (.iload_n 2, 1)] (pc' := 98) (ls' := [(0, .ref (a0 0)), (1, .int p1), (2, .int v2), (3, .int v3), (4, .int v4), (5, .int v5)]) (st' := [.int v2, .int ((2 : Int32) * (v5 + ((m_own S0) (ix p1))))]) (decB_ok (by decide +kernel)) rfl rfl ?_
    refine V_ic_le C (off := 6) (tgt := 104) (by decide +kernel) (by decide) h (fun _ h => ?_) (fun _ h => ?_)
    · refine V_sub (ls' := [(0, .ref (a0 0)), (1, .int p1), (2, .int v2), (3, .int v3), (4, .int v4)]) rfl ?_
      exact cfX5_powerOf_j104 C hn (k10 := k10) (hk10) h
    · refine V_pb C hn [(.iinc 3 1, 3)] (pc' := 104) (ls' := [(0, .ref (a0 0)), (1, .int p1), (2, .int v2), (3, .int (v3 + (1 : Int32))), (4, .int v4), (5, .int v5)]) (st' := []) (decB_ok (by decide +kernel)) rfl rfl ?_
      refine V_sub (ls' := [(0, .ref (a0 0)), (1, .int p1), (2, .int v2), (3, .int (v3 + (1 : Int32))), (4, .int v4)]) rfl ?_
      exact cfX5_powerOf_j104 C hn (k10 := k10) (hk10) h
set_option maxRecDepth 100000 in
set_option maxHeartbeats 400000 in
theorem cfX5_powerOf_j72 {E : VE} (C : Ctx E cX5_powerOf RX5 1 (some .int)) (hn : E.nL = 7) {a0 : Nat → Nat} {p1 : Int32} {S0 : MT} {v2 : Int32} {v3 : Int32} {v4 : Int32} {v5 : Int32} {v6 : Int32} {out : Int32} {k10 : Int32 → Int32 → Int32 → Option (Int32)} (hk10 : ∀ (v2 : Int32) (v3 : Int32) (v4 : Int32), k10 v2 v3 v4 = some out → V E (QR E (some (.int out)) (wdM E.G a0 S0)) (wdM E.G a0 S0) 10 [(0, .ref (a0 0)), (1, .int p1), (2, .int v2), (3, .int v3), (4, .int v4)] []) {k40 : Int32 → Int32 → Int32 → Int32 → Int32 → Option (Int32)} (hk40 : ∀ (v2 : Int32) (v3 : Int32) (v4 : Int32) (v5 : Int32) (v6 : Int32), k40 v2 v3 v4 v5 v6 = some out → V E (QR E (some (.int out)) (wdM E.G a0 S0)) (wdM E.G a0 S0) 40 [(0, .ref (a0 0)), (1, .int p1), (2, .int v2), (3, .int v3), (4, .int v4), (5, .int v5), (6, .int v6)] []) (h : fX5_powerOf_j72 k10 k40 p1 S0 v2 v3 v4 v5 v6 = some out) : V E (QR E (some (.int out)) (wdM E.G a0 S0)) (wdM E.G a0 S0) 72 [(0, .ref (a0 0)), (1, .int p1), (2, .int v2), (3, .int v3), (4, .int v4), (5, .int v5), (6, .int v6)] [] := by
  unfold fX5_powerOf_j72 at h
  refine V_pb C hn [(.iinc 6 1, 3)] (pc' := 75) (ls' := [(0, .ref (a0 0)), (1, .int p1), (2, .int v2), (3, .int v3), (4, .int v4), (5, .int v5), (6, .int (v6 + (1 : Int32)))]) (st' := []) (decB_ok (by decide +kernel)) rfl rfl ?_
  refine V_goto C (off := -35) (tgt := 40) (by decide +kernel) (by decide) ?_
  refine V_sub (ls' := [(0, .ref (a0 0)), (1, .int p1), (2, .int v2), (3, .int v3), (4, .int v4), (5, .int v5), (6, .int (v6 + (1 : Int32)))]) rfl ?_
  exact hk40 _ _ _ _ _ h
set_option maxRecDepth 100000 in
set_option maxHeartbeats 400000 in
theorem cfX5_powerOf_L40 {E : VE} (C : Ctx E cX5_powerOf RX5 1 (some .int)) (hn : E.nL = 7) {a0 : Nat → Nat} {p1 : Int32} {S0 : MT} {out : Int32} {k10 : Int32 → Int32 → Int32 → Option (Int32)} (hk10 : ∀ (v2 : Int32) (v3 : Int32) (v4 : Int32), k10 v2 v3 v4 = some out → V E (QR E (some (.int out)) (wdM E.G a0 S0)) (wdM E.G a0 S0) 10 [(0, .ref (a0 0)), (1, .int p1), (2, .int v2), (3, .int v3), (4, .int v4)] []) : ∀ (n : Nat) (v2 : Int32) (v3 : Int32) (v4 : Int32) (v5 : Int32) (v6 : Int32), fX5_powerOf_L40 k10 p1 S0 n v2 v3 v4 v5 v6 = some out → V E (QR E (some (.int out)) (wdM E.G a0 S0)) (wdM E.G a0 S0) 40 [(0, .ref (a0 0)), (1, .int p1), (2, .int v2), (3, .int v3), (4, .int v4), (5, .int v5), (6, .int v6)] [] := by
  intro n
  induction n with
  | zero =>
    intro v2 v3 v4 v5 v6 h
    cases h
  | succ n ih =>
    intro v2 v3 v4 v5 v6 h
    unfold fX5_powerOf_L40 at h
    refine V_pb C hn [(.iload 6, 2), (.aload_n 0, 1)] (pc' := 43) (ls' := [(0, .ref (a0 0)), (1, .int p1), (2, .int v2), (3, .int v3), (4, .int v4), (5, .int v5), (6, .int v6)]) (st' := [.ref (a0 0), .int v6]) (decB_ok (by decide +kernel)) rfl rfl ?_
    refine V_get C (v := .int (m_motes S0)) (by decide +kernel) 0 1 fk_RX5_60 rfl rfl ?_
    refine V_ic_ge C (off := 32) (tgt := 78) (by decide +kernel) (by decide) h (fun _ h => ?_) (fun _ h => ?_)
    · refine V_sub (ls' := [(0, .ref (a0 0)), (1, .int p1), (2, .int v2), (3, .int v3), (4, .int v4), (5, .int v5)]) rfl ?_
      exact cfX5_powerOf_j78 C hn (k10 := k10) (hk10) h
    · refine V_pb C hn [(.iload 4, 2), (.iload 6, 2), (.ishr, 1), (.iconst 1, 1), (.iand, 1), (.iconst 1, 1)] (pc' := 57) (ls' := [(0, .ref (a0 0)), (1, .int p1), (2, .int v2), (3, .int v3), (4, .int v4), (5, .int v5), (6, .int v6)]) (st' := [.int (1 : Int32), .int ((jshr v4 v6) &&& (1 : Int32))]) (decB_ok (by decide +kernel)) rfl rfl ?_
      refine V_ic_ne C (off := 15) (tgt := 72) (by decide +kernel) (by decide) h (fun _ h => ?_) (fun _ h => ?_)
      · refine V_pb C hn [(.iload 5, 2), (.aload_n 0, 1)] (pc' := 63) (ls' := [(0, .ref (a0 0)), (1, .int p1), (2, .int v2), (3, .int v3), (4, .int v4), (5, .int v5), (6, .int v6)]) (st' := [.ref (a0 0), .int v5]) (decB_ok (by decide +kernel)) rfl rfl ?_
        refine V_get C (v := .ref (a0 2)) (by decide +kernel) 0 3 fk_RX5_13 rfl rfl ?_
        refine V_pb C hn [(.iload 6, 2)] (pc' := 68) (ls' := [(0, .ref (a0 0)), (1, .int p1), (2, .int v2), (3, .int v3), (4, .int v4), (5, .int v5), (6, .int v6)]) (st' := [.int v6, .ref (a0 2), .int v5]) (decB_ok (by decide +kernel)) rfl rfl ?_
        refine V_iald C (f := (m_own S0)) (by decide +kernel) 2 rfl h (fun h => ?_)
        refine V_pb C hn [(.iadd, 1), (.istore 5, 2)] (pc' := 72) (ls' := [(0, .ref (a0 0)), (1, .int p1), (2, .int v2), (3, .int v3), (4, .int v4), (5, .int (v5 + ((m_own S0) (ix v6)))), (6, .int v6)]) (st' := []) (decB_ok (by decide +kernel)) rfl rfl ?_
        refine V_sub (ls' := [(0, .ref (a0 0)), (1, .int p1), (2, .int v2), (3, .int v3), (4, .int v4), (5, .int (v5 + ((m_own S0) (ix v6)))), (6, .int v6)]) rfl ?_
        exact cfX5_powerOf_j72 C hn (k10 := k10) (hk10) (k40 := (fun v2 v3 v4 v5 v6 => fX5_powerOf_L40 k10 p1 S0 n v2 v3 v4 v5 v6)) (fun v2 v3 v4 v5 v6 h => ih v2 v3 v4 v5 v6 h) h
      · refine V_sub (ls' := [(0, .ref (a0 0)), (1, .int p1), (2, .int v2), (3, .int v3), (4, .int v4), (5, .int v5), (6, .int v6)]) rfl ?_
        exact cfX5_powerOf_j72 C hn (k10 := k10) (hk10) (k40 := (fun v2 v3 v4 v5 v6 => fX5_powerOf_L40 k10 p1 S0 n v2 v3 v4 v5 v6)) (fun v2 v3 v4 v5 v6 h => ih v2 v3 v4 v5 v6 h) h
set_option maxRecDepth 100000 in
set_option maxHeartbeats 400000 in
theorem cfX5_powerOf_L10 {E : VE} (C : Ctx E cX5_powerOf RX5 1 (some .int)) (hn : E.nL = 7) {a0 : Nat → Nat} {p1 : Int32} {S0 : MT} {out : Int32} : ∀ (n : Nat) (v2 : Int32) (v3 : Int32) (v4 : Int32), fX5_powerOf_L10 p1 S0 n v2 v3 v4 = some out → V E (QR E (some (.int out)) (wdM E.G a0 S0)) (wdM E.G a0 S0) 10 [(0, .ref (a0 0)), (1, .int p1), (2, .int v2), (3, .int v3), (4, .int v4)] [] := by
  intro n
  induction n with
  | zero =>
    intro v2 v3 v4 h
    cases h
  | succ n ih =>
    intro v2 v3 v4 h
    unfold fX5_powerOf_L10 at h
    refine V_pb C hn [(.iload 4, 2), (.iconst 1, 1), (.aload_n 0, 1)] (pc' := 14) (ls' := [(0, .ref (a0 0)), (1, .int p1), (2, .int v2), (3, .int v3), (4, .int v4)]) (st' := [.ref (a0 0), .int (1 : Int32), .int v4]) (decB_ok (by decide +kernel)) rfl rfl ?_
    refine V_get C (v := .int (m_motes S0)) (by decide +kernel) 0 1 fk_RX5_60 rfl rfl ?_
    refine V_pb C hn [(.ishl, 1)] (pc' := 18) (ls' := [(0, .ref (a0 0)), (1, .int p1), (2, .int v2), (3, .int v3), (4, .int v4)]) (st' := [.int (jshl (1 : Int32) (m_motes S0)), .int v4]) (decB_ok (by decide +kernel)) rfl rfl ?_
    refine V_ic_ge C (off := 92) (tgt := 110) (by decide +kernel) (by decide) h (fun _ h => ?_) (fun _ h => ?_)
    · refine V_pb C hn [(.iload_n 3, 1)] (pc' := 111) (ls' := [(0, .ref (a0 0)), (1, .int p1), (2, .int v2), (3, .int v3), (4, .int v4)]) (st' := [.int v3]) (decB_ok (by decide +kernel)) rfl rfl ?_
      have h := Option.some.inj h
      subst h
      exact V_iret C (by decide +kernel) rfl
    · refine V_pb C hn [(.iload 4, 2), (.iload_n 1, 1), (.ishr, 1), (.iconst 1, 1), (.iand, 1), (.iconst 1, 1)] (pc' := 28) (ls' := [(0, .ref (a0 0)), (1, .int p1), (2, .int v2), (3, .int v3), (4, .int v4)]) (st' := [.int (1 : Int32), .int ((jshr v4 p1) &&& (1 : Int32))]) (decB_ok (by decide +kernel)) rfl rfl ?_
      refine V_ic_ne C (off := 6) (tgt := 34) (by decide +kernel) (by decide) h (fun _ h => ?_) (fun _ h => ?_)
      · refine V_goto C (off := 73) (tgt := 104) (by decide +kernel) (by decide) ?_
        refine V_sub (ls' := [(0, .ref (a0 0)), (1, .int p1), (2, .int v2), (3, .int v3), (4, .int v4)]) rfl ?_
        exact cfX5_powerOf_j104 C hn (k10 := (fun v2 v3 v4 => fX5_powerOf_L10 p1 S0 n v2 v3 v4)) (fun v2 v3 v4 h => ih v2 v3 v4 h) h
      · refine V_pb C hn [(.iconst 0, 1), (.istore 5, 2), (.iconst 0, 1), (.istore 6, 2)] (pc' := 40) (ls' := [(0, .ref (a0 0)), (1, .int p1), (2, .int v2), (3, .int v3), (4, .int v4), (5, .int (0 : Int32)), (6, .int (0 : Int32))]) (st' := []) (decB_ok (by decide +kernel)) rfl rfl ?_
        refine V_sub (ls' := [(0, .ref (a0 0)), (1, .int p1), (2, .int v2), (3, .int v3), (4, .int v4), (5, .int (0 : Int32)), (6, .int (0 : Int32))]) rfl ?_
        exact cfX5_powerOf_L40 C hn (k10 := (fun v2 v3 v4 => fX5_powerOf_L10 p1 S0 n v2 v3 v4)) (fun v2 v3 v4 h => ih v2 v3 v4 h) FU _ _ _ _ _ h
set_option maxRecDepth 100000 in
set_option maxHeartbeats 400000 in
theorem cfX5_powerOf {l : Launch} {G : GG} (a0 : Nat → Nat) {p1 : Int32} {S0 : MT} {out : Int32} (h : fX5_powerOf p1 S0 = some out) : Con l G 1 yX5_powerOf cX5_powerOf 7 (some .int) [.ref (a0 0), .int p1] (wdM G a0 S0) (some (.int out)) (wdM G a0 S0) := by
  refine Con_of (by decide +kernel) (Nat.le_of_ble_eq_true rfl) (fun E hl hG hn C => ?_)
  subst hl
  subst hG
  have C : Ctx E cX5_powerOf RX5 1 (some .int) := C
  show V E _ _ 0 [(0, .ref (a0 0)), (1, .int p1)] []
  unfold fX5_powerOf at h
  refine V_pb C hn [(.aload_n 0, 1)] (pc' := 1) (ls' := [(0, .ref (a0 0)), (1, .int p1)]) (st' := [.ref (a0 0)]) (decB_ok (by decide +kernel)) rfl rfl ?_
  obtain ⟨q1, h2, h⟩ := bnd h
  refine V_callV0 C (As := []) (rest := []) (by decide +kernel) ok_yX5_allWeight mk_RX5_216 (cfX5_allWeight (l := E.l) (G := E.G) a0 h2) (q0 := 0) rfl rfl rfl rfl rfl rfl (Nat.le_of_ble_eq_true rfl) (Nat.le_of_ble_eq_true rfl) (Nat.le_of_ble_eq_true rfl) ?_
  show V E _ (wdM E.G a0 S0) 4 [(0, .ref (a0 0)), (1, .int p1)] [.int q1]
  refine V_pb C hn [(.istore_n 2, 1), (.iconst 0, 1), (.istore_n 3, 1), (.iconst 0, 1), (.istore 4, 2)] (pc' := 10) (ls' := [(0, .ref (a0 0)), (1, .int p1), (2, .int q1), (3, .int (0 : Int32)), (4, .int (0 : Int32))]) (st' := []) (decB_ok (by decide +kernel)) rfl rfl ?_
  refine V_sub (ls' := [(0, .ref (a0 0)), (1, .int p1), (2, .int q1), (3, .int (0 : Int32)), (4, .int (0 : Int32))]) rfl ?_
  exact cfX5_powerOf_L10 C hn FU _ _ _ h
set_option maxRecDepth 100000 in
set_option maxHeartbeats 400000 in
theorem cfX5_moteOf {l : Launch} {G : GG} (a0 : Nat → Nat) {p1 : Int32} {p2 : Int32} {S0 : MT} {out : Int32 × MT} (h : fX5_moteOf p1 p2 S0 = some out) : Con l G 2 yX5_moteOf cX5_moteOf 3 (some .int) [.ref (a0 0), .int p1, .int p2] (wdM G a0 S0) (some (.int out.1)) (wdM G a0 out.2) := by
  refine Con_of (by decide +kernel) (Nat.le_of_ble_eq_true rfl) (fun E hl hG hn C => ?_)
  subst hl
  subst hG
  have C : Ctx E cX5_moteOf RX5 2 (some .int) := C
  show V E _ _ 0 [(0, .ref (a0 0)), (1, .int p1), (2, .int p2)] []
  unfold fX5_moteOf at h
  refine V_pb C hn [(.aload_n 0, 1), (.iload_n 1, 1)] (pc' := 2) (ls' := [(0, .ref (a0 0)), (1, .int p1), (2, .int p2)]) (st' := [.int p1, .ref (a0 0)]) (decB_ok (by decide +kernel)) rfl rfl ?_
  obtain ⟨q1, h2, h⟩ := bnd h
  refine V_callV0 C (As := [.int p1]) (rest := []) (by decide +kernel) ok_yX5_isMote mk_RX5_91 (cfX5_isMote (l := E.l) (G := E.G) a0 h2) (q0 := 0) rfl rfl rfl rfl rfl rfl (Nat.le_of_ble_eq_true rfl) (Nat.le_of_ble_eq_true rfl) (Nat.le_of_ble_eq_true rfl) ?_
  show V E _ (wdM E.G a0 S0) 5 [(0, .ref (a0 0)), (1, .int p1), (2, .int p2)] [.int q1]
  refine V_if_ne C (off := 10) (tgt := 15) (by decide +kernel) (by decide) h (fun _ h => ?_) (fun _ h => ?_)
  · refine V_pb C hn [(.aload_n 0, 1), (.bipush (-2), 2)] (pc' := 11) (ls' := [(0, .ref (a0 0)), (1, .int p1), (2, .int p2)]) (st' := [.int (cI (-2)), .ref (a0 0)]) (decB_ok (by decide +kernel)) rfl rfl ?_
    obtain ⟨q3, h4, h⟩ := bnd h
    refine V_callV0 C (As := [.int (cI (-2))]) (rest := []) (by decide +kernel) ok_yX5_no mk_RX5_77 (cfX5_no (l := E.l) (G := E.G) a0 h4) (q0 := 0) rfl rfl rfl rfl rfl rfl (Nat.le_of_ble_eq_true rfl) (Nat.le_of_ble_eq_true rfl) (Nat.le_of_ble_eq_true rfl) ?_
    show V E _ (wdM E.G a0 q3.2) 14 [(0, .ref (a0 0)), (1, .int p1), (2, .int p2)] [.int q3.1]
    have h := Option.some.inj h
    subst h
    exact V_iret C (by decide +kernel) rfl
  · refine V_pb C hn [(.iload_n 2, 1)] (pc' := 16) (ls' := [(0, .ref (a0 0)), (1, .int p1), (2, .int p2)]) (st' := [.int p2]) (decB_ok (by decide +kernel)) rfl rfl ?_
    refine V_sw (0) ?_
    refine Sw_at C (dflt := 88) (lo := 0) (hi := 4) (offs := #[36, 43, 50, 57, 82]) (len := 36) (off := 36) (v := (0 : Int32)) (tgt := 52) (by decide +kernel) (by decide) (by decide) (by decide) rfl (by decide) h (fun _ h => ?_) (fun _ h => ?_)
    · refine V_pb C hn [(.aload_n 0, 1)] (pc' := 53) (ls' := [(0, .ref (a0 0)), (1, .int p1), (2, .int p2)]) (st' := [.ref (a0 0)]) (decB_ok (by decide +kernel)) rfl rfl ?_
      refine V_get C (v := .ref (a0 1)) (by decide +kernel) 0 2 fk_RX5_7 rfl rfl ?_
      refine V_pb C hn [(.iload_n 1, 1)] (pc' := 57) (ls' := [(0, .ref (a0 0)), (1, .int p1), (2, .int p2)]) (st' := [.int p1, .ref (a0 1)]) (decB_ok (by decide +kernel)) rfl rfl ?_
      refine V_iald C (f := (m_kind S0)) (by decide +kernel) 1 rfl h (fun h => ?_)
      have h := Option.some.inj h
      subst h
      exact V_iret C (by decide +kernel) rfl
    refine Sw_at C (dflt := 88) (lo := 0) (hi := 4) (offs := #[36, 43, 50, 57, 82]) (len := 36) (off := 43) (v := (1 : Int32)) (tgt := 59) (by decide +kernel) (by decide) (by decide) (by decide) rfl (by decide) h (fun _ h => ?_) (fun _ h => ?_)
    · refine V_pb C hn [(.aload_n 0, 1)] (pc' := 60) (ls' := [(0, .ref (a0 0)), (1, .int p1), (2, .int p2)]) (st' := [.ref (a0 0)]) (decB_ok (by decide +kernel)) rfl rfl ?_
      refine V_get C (v := .ref (a0 2)) (by decide +kernel) 0 3 fk_RX5_13 rfl rfl ?_
      refine V_pb C hn [(.iload_n 1, 1)] (pc' := 64) (ls' := [(0, .ref (a0 0)), (1, .int p1), (2, .int p2)]) (st' := [.int p1, .ref (a0 2)]) (decB_ok (by decide +kernel)) rfl rfl ?_
      refine V_iald C (f := (m_own S0)) (by decide +kernel) 2 rfl h (fun h => ?_)
      have h := Option.some.inj h
      subst h
      exact V_iret C (by decide +kernel) rfl
    refine Sw_at C (dflt := 88) (lo := 0) (hi := 4) (offs := #[36, 43, 50, 57, 82]) (len := 36) (off := 50) (v := (2 : Int32)) (tgt := 66) (by decide +kernel) (by decide) (by decide) (by decide) rfl (by decide) h (fun _ h => ?_) (fun _ h => ?_)
    · refine V_pb C hn [(.aload_n 0, 1)] (pc' := 67) (ls' := [(0, .ref (a0 0)), (1, .int p1), (2, .int p2)]) (st' := [.ref (a0 0)]) (decB_ok (by decide +kernel)) rfl rfl ?_
      refine V_get C (v := .ref (a0 3)) (by decide +kernel) 0 4 fk_RX5_16 rfl rfl ?_
      refine V_pb C hn [(.iload_n 1, 1)] (pc' := 71) (ls' := [(0, .ref (a0 0)), (1, .int p1), (2, .int p2)]) (st' := [.int p1, .ref (a0 3)]) (decB_ok (by decide +kernel)) rfl rfl ?_
      refine V_iald C (f := (m_cell S0)) (by decide +kernel) 3 rfl h (fun h => ?_)
      have h := Option.some.inj h
      subst h
      exact V_iret C (by decide +kernel) rfl
    refine Sw_at C (dflt := 88) (lo := 0) (hi := 4) (offs := #[36, 43, 50, 57, 82]) (len := 36) (off := 57) (v := (3 : Int32)) (tgt := 73) (by decide +kernel) (by decide) (by decide) (by decide) rfl (by decide) h (fun _ h => ?_) (fun _ h => ?_)
    · refine V_pb C hn [(.aload_n 0, 1), (.aload_n 0, 1)] (pc' := 75) (ls' := [(0, .ref (a0 0)), (1, .int p1), (2, .int p2)]) (st' := [.ref (a0 0), .ref (a0 0)]) (decB_ok (by decide +kernel)) rfl rfl ?_
      refine V_get C (v := .ref (a0 3)) (by decide +kernel) 0 4 fk_RX5_16 rfl rfl ?_
      refine V_pb C hn [(.iload_n 1, 1)] (pc' := 79) (ls' := [(0, .ref (a0 0)), (1, .int p1), (2, .int p2)]) (st' := [.int p1, .ref (a0 3), .ref (a0 0)]) (decB_ok (by decide +kernel)) rfl rfl ?_
      refine V_iald C (f := (m_cell S0)) (by decide +kernel) 3 rfl h (fun h => ?_)
      refine V_pb C hn [(.aload_n 0, 1)] (pc' := 81) (ls' := [(0, .ref (a0 0)), (1, .int p1), (2, .int p2)]) (st' := [.ref (a0 0), .int ((m_cell S0) (ix p1)), .ref (a0 0)]) (decB_ok (by decide +kernel)) rfl rfl ?_
      refine V_get C (v := .ref (a0 4)) (by decide +kernel) 0 6 fk_RX5_19 rfl rfl ?_
      refine V_pb C hn [(.iconst 2, 1)] (pc' := 85) (ls' := [(0, .ref (a0 0)), (1, .int p1), (2, .int p2)]) (st' := [.int (2 : Int32), .ref (a0 4), .int ((m_cell S0) (ix p1)), .ref (a0 0)]) (decB_ok (by decide +kernel)) rfl rfl ?_
      refine V_iald C (f := (m_ways S0)) (by decide +kernel) 4 rfl h (fun h => ?_)
      obtain ⟨q5, h6, h⟩ := bnd h
      refine V_callV0 C (As := [.int ((m_cell S0) (ix p1)), .int ((m_ways S0) (ix (2 : Int32)))]) (rest := []) (by decide +kernel) ok_yX5_isLit mk_RX5_201 (cfX5_isLit (l := E.l) (G := E.G) a0 h6) (q0 := 0) rfl rfl rfl rfl rfl rfl (Nat.le_of_ble_eq_true rfl) (Nat.le_of_ble_eq_true rfl) (Nat.le_of_ble_eq_true rfl) ?_
      show V E _ (wdM E.G a0 S0) 89 [(0, .ref (a0 0)), (1, .int p1), (2, .int p2)] [.int q5]
      refine V_if_eq C (off := 7) (tgt := 96) (by decide +kernel) (by decide) h (fun _ h => ?_) (fun _ h => ?_)
      · refine V_pb C hn [(.iconst 0, 1)] (pc' := 97) (ls' := [(0, .ref (a0 0)), (1, .int p1), (2, .int p2)]) (st' := [.int (0 : Int32)]) (decB_ok (by decide +kernel)) rfl rfl ?_
        have h := Option.some.inj h
        subst h
        exact V_iret C (by decide +kernel) rfl
      · refine V_pb C hn [(.iconst 1, 1)] (pc' := 93) (ls' := [(0, .ref (a0 0)), (1, .int p1), (2, .int p2)]) (st' := [.int (1 : Int32)]) (decB_ok (by decide +kernel)) rfl rfl ?_
        refine V_goto C (off := 4) (tgt := 97) (by decide +kernel) (by decide) ?_
        have h := Option.some.inj h
        subst h
        exact V_iret C (by decide +kernel) rfl
    refine Sw_at C (dflt := 88) (lo := 0) (hi := 4) (offs := #[36, 43, 50, 57, 82]) (len := 36) (off := 82) (v := (4 : Int32)) (tgt := 98) (by decide +kernel) (by decide) (by decide) (by decide) rfl (by decide) h (fun _ h => ?_) (fun _ h => ?_)
    · refine V_pb C hn [(.aload_n 0, 1), (.iload_n 1, 1)] (pc' := 100) (ls' := [(0, .ref (a0 0)), (1, .int p1), (2, .int p2)]) (st' := [.int p1, .ref (a0 0)]) (decB_ok (by decide +kernel)) rfl rfl ?_
      obtain ⟨q7, h8, h⟩ := bnd h
      refine V_callV0 C (As := [.int p1]) (rest := []) (by decide +kernel) ok_yX5_powerOf mk_RX5_238 (cfX5_powerOf (l := E.l) (G := E.G) a0 h8) (q0 := 0) rfl rfl rfl rfl rfl rfl (Nat.le_of_ble_eq_true rfl) (Nat.le_of_ble_eq_true rfl) (Nat.le_of_ble_eq_true rfl) ?_
      show V E _ (wdM E.G a0 S0) 103 [(0, .ref (a0 0)), (1, .int p1), (2, .int p2)] [.int q7]
      have h := Option.some.inj h
      subst h
      exact V_iret C (by decide +kernel) rfl
    refine Sw_end C (dflt := 88) (lo := 0) (hi := 4) (offs := #[36, 43, 50, 57, 82]) (len := 36) (tgt := 104) (by decide +kernel) (by decide) (by decide) ?_
    refine V_pb C hn [(.aload_n 0, 1), (.bipush (-2), 2)] (pc' := 107) (ls' := [(0, .ref (a0 0)), (1, .int p1), (2, .int p2)]) (st' := [.int (cI (-2)), .ref (a0 0)]) (decB_ok (by decide +kernel)) rfl rfl ?_
    obtain ⟨q9, h10, h⟩ := bnd h
    refine V_callV0 C (As := [.int (cI (-2))]) (rest := []) (by decide +kernel) ok_yX5_no mk_RX5_77 (cfX5_no (l := E.l) (G := E.G) a0 h10) (q0 := 0) rfl rfl rfl rfl rfl rfl (Nat.le_of_ble_eq_true rfl) (Nat.le_of_ble_eq_true rfl) (Nat.le_of_ble_eq_true rfl) ?_
    show V E _ (wdM E.G a0 q9.2) 110 [(0, .ref (a0 0)), (1, .int p1), (2, .int p2)] [.int q9.1]
    have h := Option.some.inj h
    subst h
    exact V_iret C (by decide +kernel) rfl
set_option maxRecDepth 100000 in
set_option maxHeartbeats 400000 in
theorem cfX5_lit_j19 {E : VE} (C : Ctx E cX5_lit RX5 2 (some .int)) (hn : E.nL = 3) {a0 : Nat → Nat} {p1 : Int32} {p2 : Int32} {S0 : MT} {out : Int32 × MT} (h : fX5_lit_j19 p1 p2 S0 = some out) : V E (QR E (some (.int out.1)) (wdM E.G a0 out.2)) (wdM E.G a0 S0) 19 [(0, .ref (a0 0))] [] := by
  unfold fX5_lit_j19 at h
  refine V_pb C hn [(.aload_n 0, 1), (.bipush (-2), 2)] (pc' := 22) (ls' := [(0, .ref (a0 0))]) (st' := [.int (cI (-2)), .ref (a0 0)]) (decB_ok (by decide +kernel)) rfl rfl ?_
  obtain ⟨q3, h4, h⟩ := bnd h
  refine V_callV0 C (As := [.int (cI (-2))]) (rest := []) (by decide +kernel) ok_yX5_no mk_RX5_77 (cfX5_no (l := E.l) (G := E.G) a0 h4) (q0 := 0) rfl rfl rfl rfl rfl rfl (Nat.le_of_ble_eq_true rfl) (Nat.le_of_ble_eq_true rfl) (Nat.le_of_ble_eq_true rfl) ?_
  show V E _ (wdM E.G a0 q3.2) 25 [(0, .ref (a0 0))] [.int q3.1]
  have h := Option.some.inj h
  subst h
  exact V_iret C (by decide +kernel) rfl
set_option maxRecDepth 100000 in
set_option maxHeartbeats 400000 in
theorem cfX5_lit {l : Launch} {G : GG} (a0 : Nat → Nat) {p1 : Int32} {p2 : Int32} {S0 : MT} {out : Int32 × MT} (h : fX5_lit p1 p2 S0 = some out) : Con l G 2 yX5_lit cX5_lit 3 (some .int) [.ref (a0 0), .int p1, .int p2] (wdM G a0 S0) (some (.int out.1)) (wdM G a0 out.2) := by
  refine Con_of (by decide +kernel) (Nat.le_of_ble_eq_true rfl) (fun E hl hG hn C => ?_)
  subst hl
  subst hG
  have C : Ctx E cX5_lit RX5 2 (some .int) := C
  show V E _ _ 0 [(0, .ref (a0 0)), (1, .int p1), (2, .int p2)] []
  unfold fX5_lit at h
  refine V_pb C hn [(.aload_n 0, 1), (.iload_n 1, 1)] (pc' := 2) (ls' := [(0, .ref (a0 0)), (1, .int p1), (2, .int p2)]) (st' := [.int p1, .ref (a0 0)]) (decB_ok (by decide +kernel)) rfl rfl ?_
  obtain ⟨q1, h2, h⟩ := bnd h
  refine V_callV0 C (As := [.int p1]) (rest := []) (by decide +kernel) ok_yX5_isCell mk_RX5_102 (cfX5_isCell (l := E.l) (G := E.G) a0 h2) (q0 := 0) rfl rfl rfl rfl rfl rfl (Nat.le_of_ble_eq_true rfl) (Nat.le_of_ble_eq_true rfl) (Nat.le_of_ble_eq_true rfl) ?_
  show V E _ (wdM E.G a0 S0) 5 [(0, .ref (a0 0)), (1, .int p1), (2, .int p2)] [.int q1]
  refine V_if_eq C (off := 14) (tgt := 19) (by decide +kernel) (by decide) h (fun _ h => ?_) (fun _ h => ?_)
  · refine V_sub (ls' := [(0, .ref (a0 0))]) rfl ?_
    exact cfX5_lit_j19 C hn h
  · refine V_pb C hn [(.iload_n 2, 1), (.iconst 0, 1), (.sipush 999, 3)] (pc' := 13) (ls' := [(0, .ref (a0 0)), (1, .int p1), (2, .int p2)]) (st' := [.int (999 : Int32), .int (0 : Int32), .int p2]) (decB_ok (by decide +kernel)) rfl rfl ?_
    obtain ⟨q5, h6, h⟩ := bnd h
    refine V_callSp C (As := [.int p2, .int (0 : Int32), .int (999 : Int32)]) (rest := []) (by decide +kernel) ok_yX5_within mk_RX5_63 (cfX5_within (l := E.l) (G := E.G) h6) [] rfl rfl rfl rfl (Nat.le_of_ble_eq_true rfl) (Nat.le_of_ble_eq_true rfl) (Nat.le_of_ble_eq_true rfl) ?_
    show V E _ (wdM E.G a0 S0) 16 [(0, .ref (a0 0)), (1, .int p1), (2, .int p2)] [.int q5]
    refine V_if_ne C (off := 10) (tgt := 26) (by decide +kernel) (by decide) h (fun _ h => ?_) (fun _ h => ?_)
    · refine V_sub (ls' := [(0, .ref (a0 0))]) rfl ?_
      exact cfX5_lit_j19 C hn h
    · refine V_pb C hn [(.aload_n 0, 1), (.iload_n 1, 1), (.iload_n 2, 1)] (pc' := 29) (ls' := [(0, .ref (a0 0)), (1, .int p1), (2, .int p2)]) (st' := [.int p2, .int p1, .ref (a0 0)]) (decB_ok (by decide +kernel)) rfl rfl ?_
      obtain ⟨q7, h8, h⟩ := bnd h
      refine V_callV0 C (As := [.int p1, .int p2]) (rest := []) (by decide +kernel) ok_yX5_isLit mk_RX5_201 (cfX5_isLit (l := E.l) (G := E.G) a0 h8) (q0 := 0) rfl rfl rfl rfl rfl rfl (Nat.le_of_ble_eq_true rfl) (Nat.le_of_ble_eq_true rfl) (Nat.le_of_ble_eq_true rfl) ?_
      show V E _ (wdM E.G a0 S0) 32 [(0, .ref (a0 0)), (1, .int p1), (2, .int p2)] [.int q7]
      refine V_if_eq C (off := 7) (tgt := 39) (by decide +kernel) (by decide) h (fun _ h => ?_) (fun _ h => ?_)
      · refine V_pb C hn [(.iconst 0, 1)] (pc' := 40) (ls' := [(0, .ref (a0 0)), (1, .int p1), (2, .int p2)]) (st' := [.int (0 : Int32)]) (decB_ok (by decide +kernel)) rfl rfl ?_
        have h := Option.some.inj h
        subst h
        exact V_iret C (by decide +kernel) rfl
      · refine V_pb C hn [(.iconst 1, 1)] (pc' := 36) (ls' := [(0, .ref (a0 0)), (1, .int p1), (2, .int p2)]) (st' := [.int (1 : Int32)]) (decB_ok (by decide +kernel)) rfl rfl ?_
        refine V_goto C (off := 4) (tgt := 40) (by decide +kernel) (by decide) ?_
        have h := Option.some.inj h
        subst h
        exact V_iret C (by decide +kernel) rfl
set_option maxRecDepth 100000 in
set_option maxHeartbeats 400000 in
theorem cfX5_isTime {l : Launch} {G : GG} {p0 : Int32} {out : Int32} (h : fX5_isTime p0 = some out) : Con l G 1 yX5_isTime cX5_isTime 1 (some .boolean) [.int p0] (([] : va_W)) (some (.int out)) (([] : va_W)) := by
  refine Con_of (by decide +kernel) (Nat.le_of_ble_eq_true rfl) (fun E hl hG hn C => ?_)
  subst hl
  subst hG
  have C : Ctx E cX5_isTime RX5 1 (some .boolean) := C
  show V E _ _ 0 [(0, .int p0)] []
  unfold fX5_isTime at h
  refine V_pb C hn [(.iload_n 0, 1), (.iconst 0, 1), (.bipush 24, 2)] (pc' := 4) (ls' := [(0, .int p0)]) (st' := [.int (24 : Int32), .int (0 : Int32), .int p0]) (decB_ok (by decide +kernel)) rfl rfl ?_
  obtain ⟨q1, h2, h⟩ := bnd h
  refine V_callSp C (As := [.int p0, .int (0 : Int32), .int (24 : Int32)]) (rest := []) (by decide +kernel) ok_yX5_within mk_RX5_63 (cfX5_within (l := E.l) (G := E.G) h2) [] rfl rfl rfl rfl (Nat.le_of_ble_eq_true rfl) (Nat.le_of_ble_eq_true rfl) (Nat.le_of_ble_eq_true rfl) ?_
  show V E _ (([] : va_W)) 7 [(0, .int p0)] [.int q1]
  obtain ⟨hb9, h⟩ := gd_some h
  have h := Option.some.inj h
  subst h
  exact V_iret C (by decide +kernel) (isb_nar hb9)
set_option maxRecDepth 100000 in
set_option maxHeartbeats 400000 in
theorem cfX5_begins_j26 {E : VE} (C : Ctx E cX5_begins RX5 0 none) (hn : E.nL = 2) {a0 : Nat → Nat} {S0 : MT} {out : MT} (h : fX5_begins_j26 S0 = some out) : V E (QR E none (wdM E.G a0 out)) (wdM E.G a0 S0) 26 [(0, .ref (a0 0))] [] := by
  unfold fX5_begins_j26 at h
  refine V_pb C hn [(.aload_n 0, 1), (.aload_n 0, 1)] (pc' := 28) (ls' := [(0, .ref (a0 0))]) (st' := [.ref (a0 0), .ref (a0 0)]) (decB_ok (by decide +kernel)) rfl rfl ?_
  refine V_get C (v := .ref (a0 4)) (by decide +kernel) 0 6 fk_RX5_19 rfl rfl ?_
  refine V_pb C hn [(.iconst 2, 1)] (pc' := 32) (ls' := [(0, .ref (a0 0))]) (st' := [.int (2 : Int32), .ref (a0 4), .ref (a0 0)]) (decB_ok (by decide +kernel)) rfl rfl ?_
  refine V_iald C (f := (m_ways S0)) (by decide +kernel) 4 rfl h (fun h => ?_)
  obtain ⟨x1, e2, h⟩ := bnd h
  refine V_topi e2 ?_
  obtain ⟨w3, e4, h⟩ := bnd h
  refine V_put C (v := .int x1) (ws' := wdM E.G a0 w3) (by decide +kernel) 0 22 pk_RX5_219 rfl rfl rfl (Nat.le_of_ble_eq_true rfl) (by cases e4; rfl) ?_
  have h := Option.some.inj h
  subst h
  exact V_vret C (by decide +kernel)
set_option maxRecDepth 100000 in
set_option maxHeartbeats 400000 in
theorem cfX5_begins_L2 {E : VE} (C : Ctx E cX5_begins RX5 0 none) (hn : E.nL = 2) {a0 : Nat → Nat} {out : MT} : ∀ (n : Nat) (v1 : Int32) (S0 : MT), fX5_begins_L2 n v1 S0 = some out → V E (QR E none (wdM E.G a0 out)) (wdM E.G a0 S0) 2 [(0, .ref (a0 0)), (1, .int v1)] [] := by
  intro n
  induction n with
  | zero =>
    intro v1 S0 h
    cases h
  | succ n ih =>
    intro v1 S0 h
    unfold fX5_begins_L2 at h
    refine V_pb C hn [(.iload_n 1, 1), (.bipush 10, 2)] (pc' := 5) (ls' := [(0, .ref (a0 0)), (1, .int v1)]) (st' := [.int (10 : Int32), .int v1]) (decB_ok (by decide +kernel)) rfl rfl ?_
    refine V_ic_ge C (off := 21) (tgt := 26) (by decide +kernel) (by decide) h (fun _ h => ?_) (fun _ h => ?_)
    · refine V_sub (ls' := [(0, .ref (a0 0))]) rfl ?_
      exact cfX5_begins_j26 C hn h
    · refine V_pb C hn [(.aload_n 0, 1)] (pc' := 9) (ls' := [(0, .ref (a0 0)), (1, .int v1)]) (st' := [.ref (a0 0)]) (decB_ok (by decide +kernel)) rfl rfl ?_
      refine V_get C (v := .ref (a0 12)) (by decide +kernel) 0 21 fk_RX5_44 rfl rfl ?_
      refine V_pb C hn [(.iload_n 1, 1), (.aload_n 0, 1)] (pc' := 14) (ls' := [(0, .ref (a0 0)), (1, .int v1)]) (st' := [.ref (a0 0), .int v1, .ref (a0 12)]) (decB_ok (by decide +kernel)) rfl rfl ?_
      refine V_get C (v := .ref (a0 3)) (by decide +kernel) 0 4 fk_RX5_16 rfl rfl ?_
      refine V_pb C hn [(.iload_n 1, 1)] (pc' := 18) (ls' := [(0, .ref (a0 0)), (1, .int v1)]) (st' := [.int v1, .ref (a0 3), .int v1, .ref (a0 12)]) (decB_ok (by decide +kernel)) rfl rfl ?_
      refine V_iald C (f := (m_cell S0)) (by decide +kernel) 3 rfl h (fun h => ?_)
      obtain ⟨x5, e6, h⟩ := bnd h
      refine V_topi e6 ?_
      obtain ⟨hb9, h⟩ := gd_some h
      obtain ⟨w7, e8, h⟩ := bnd h
      refine V_iast C (f := (m_was S0)) (ws' := wdM E.G a0 w7) (by decide +kernel) 12 rfl (o := some ()) (out := ()) (by rw [hb9]; rfl) (by cases e8; rfl) (fun _ => ?_)
      refine V_pb C hn [(.iinc 1 1, 3)] (pc' := 23) (ls' := [(0, .ref (a0 0)), (1, .int (v1 + (1 : Int32)))]) (st' := []) (decB_ok (by decide +kernel)) rfl rfl ?_
      refine V_goto C (off := -21) (tgt := 2) (by decide +kernel) (by decide) ?_
      refine V_sub (ls' := [(0, .ref (a0 0)), (1, .int (v1 + (1 : Int32)))]) rfl ?_
      exact ih _ _ h
set_option maxRecDepth 100000 in
set_option maxHeartbeats 400000 in
theorem cfX5_begins {l : Launch} {G : GG} (a0 : Nat → Nat) {S0 : MT} {out : MT} (h : fX5_begins S0 = some out) : Con l G 0 yX5_begins cX5_begins 2 none [.ref (a0 0)] (wdM G a0 S0) none (wdM G a0 out) := by
  refine Con_of (by decide +kernel) (Nat.le_of_ble_eq_true rfl) (fun E hl hG hn C => ?_)
  subst hl
  subst hG
  have C : Ctx E cX5_begins RX5 0 none := C
  show V E _ _ 0 [(0, .ref (a0 0))] []
  unfold fX5_begins at h
  refine V_pb C hn [(.iconst 0, 1), (.istore_n 1, 1)] (pc' := 2) (ls' := [(0, .ref (a0 0)), (1, .int (0 : Int32))]) (st' := []) (decB_ok (by decide +kernel)) rfl rfl ?_
  refine V_sub (ls' := [(0, .ref (a0 0)), (1, .int (0 : Int32))]) rfl ?_
  exact cfX5_begins_L2 C hn FU _ _ h
set_option maxRecDepth 100000 in
set_option maxHeartbeats 400000 in
theorem cfX5_step_j38 {E : VE} (C : Ctx E cX5_step RX5 7 none) (hn : E.nL = 2) {a0 : Nat → Nat} {S0 : MT} {out : MT} (h : fX5_step_j38 S0 = some out) : V E (QR E none (wdM E.G a0 out)) (wdM E.G a0 S0) 38 [(0, .ref (a0 0))] [] := by
  unfold fX5_step_j38 at h
  refine V_pb C hn [(.aload_n 0, 1)] (pc' := 39) (ls' := [(0, .ref (a0 0))]) (st' := [.ref (a0 0)]) (decB_ok (by decide +kernel)) rfl rfl ?_
  refine V_get C (v := .ref (a0 4)) (by decide +kernel) 0 6 fk_RX5_19 rfl rfl ?_
  refine V_pb C hn [(.iconst 2, 1)] (pc' := 43) (ls' := [(0, .ref (a0 0))]) (st' := [.int (2 : Int32), .ref (a0 4)]) (decB_ok (by decide +kernel)) rfl rfl ?_
  refine V_iald C (f := (m_ways S0)) (by decide +kernel) 4 rfl h (fun h => ?_)
  refine V_pb C hn [(.sipush 999, 3)] (pc' := 47) (ls' := [(0, .ref (a0 0))]) (st' := [.int (999 : Int32), .int ((m_ways S0) (ix (2 : Int32)))]) (decB_ok (by decide +kernel)) rfl rfl ?_
  refine V_ic_ge C (off := 13) (tgt := 60) (by decide +kernel) (by decide) h (fun _ h => ?_) (fun _ h => ?_)
  · have h := Option.some.inj h
    subst h
    exact V_vret C (by decide +kernel)
  · refine V_pb C hn [(.aload_n 0, 1)] (pc' := 51) (ls' := [(0, .ref (a0 0))]) (st' := [.ref (a0 0)]) (decB_ok (by decide +kernel)) rfl rfl ?_
    refine V_get C (v := .ref (a0 4)) (by decide +kernel) 0 6 fk_RX5_19 rfl rfl ?_
    refine V_pb C hn [(.iconst 2, 1), (.dup2, 1)] (pc' := 56) (ls' := [(0, .ref (a0 0))]) (st' := [.int (2 : Int32), .ref (a0 4), .int (2 : Int32), .ref (a0 4)]) (decB_ok (by decide +kernel)) rfl rfl ?_
    refine V_iald C (f := (m_ways S0)) (by decide +kernel) 4 rfl h (fun h => ?_)
    refine V_pb C hn [(.iconst 1, 1), (.iadd, 1)] (pc' := 59) (ls' := [(0, .ref (a0 0))]) (st' := [.int (((m_ways S0) (ix (2 : Int32))) + (1 : Int32)), .int (2 : Int32), .ref (a0 4)]) (decB_ok (by decide +kernel)) rfl rfl ?_
    obtain ⟨x1, e2, h⟩ := bnd h
    refine V_topi e2 ?_
    obtain ⟨hb9, h⟩ := gd_some h
    obtain ⟨w3, e4, h⟩ := bnd h
    refine V_iast C (f := (m_ways S0)) (ws' := wdM E.G a0 w3) (by decide +kernel) 4 rfl (o := some ()) (out := ()) (by rw [hb9]; rfl) (by cases e4; rfl) (fun _ => ?_)
    have h := Option.some.inj h
    subst h
    exact V_vret C (by decide +kernel)
set_option maxRecDepth 100000 in
set_option maxHeartbeats 400000 in
theorem cfX5_step_L2 {E : VE} (C : Ctx E cX5_step RX5 7 none) (hn : E.nL = 2) {a0 : Nat → Nat} {out : MT} : ∀ (n : Nat) (v1 : Int32) (S0 : MT), fX5_step_L2 n v1 S0 = some out → V E (QR E none (wdM E.G a0 out)) (wdM E.G a0 S0) 2 [(0, .ref (a0 0)), (1, .int v1)] [] := by
  intro n
  induction n with
  | zero =>
    intro v1 S0 h
    cases h
  | succ n ih =>
    intro v1 S0 h
    unfold fX5_step_L2 at h
    refine V_pb C hn [(.iload_n 1, 1), (.aload_n 0, 1)] (pc' := 4) (ls' := [(0, .ref (a0 0)), (1, .int v1)]) (st' := [.ref (a0 0), .int v1]) (decB_ok (by decide +kernel)) rfl rfl ?_
    refine V_get C (v := .int (m_motes S0)) (by decide +kernel) 0 1 fk_RX5_60 rfl rfl ?_
    refine V_ic_ge C (off := 31) (tgt := 38) (by decide +kernel) (by decide) h (fun _ h => ?_) (fun _ h => ?_)
    · refine V_sub (ls' := [(0, .ref (a0 0))]) rfl ?_
      exact cfX5_step_j38 C hn h
    · refine V_pb C hn [(.aload_n 0, 1)] (pc' := 11) (ls' := [(0, .ref (a0 0)), (1, .int v1)]) (st' := [.ref (a0 0)]) (decB_ok (by decide +kernel)) rfl rfl ?_
      refine V_get C (v := .ref (a0 3)) (by decide +kernel) 0 4 fk_RX5_16 rfl rfl ?_
      refine V_pb C hn [(.iload_n 1, 1), (.aload_n 0, 1), (.aload_n 0, 1)] (pc' := 17) (ls' := [(0, .ref (a0 0)), (1, .int v1)]) (st' := [.ref (a0 0), .ref (a0 0), .int v1, .ref (a0 3)]) (decB_ok (by decide +kernel)) rfl rfl ?_
      refine V_get C (v := .ref (a0 1)) (by decide +kernel) 0 2 fk_RX5_7 rfl rfl ?_
      refine V_pb C hn [(.iload_n 1, 1)] (pc' := 21) (ls' := [(0, .ref (a0 0)), (1, .int v1)]) (st' := [.int v1, .ref (a0 1), .ref (a0 0), .int v1, .ref (a0 3)]) (decB_ok (by decide +kernel)) rfl rfl ?_
      refine V_iald C (f := (m_kind S0)) (by decide +kernel) 1 rfl h (fun h => ?_)
      refine V_pb C hn [(.aload_n 0, 1)] (pc' := 23) (ls' := [(0, .ref (a0 0)), (1, .int v1)]) (st' := [.ref (a0 0), .int ((m_kind S0) (ix v1)), .ref (a0 0), .int v1, .ref (a0 3)]) (decB_ok (by decide +kernel)) rfl rfl ?_
      refine V_get C (v := .ref (a0 3)) (by decide +kernel) 0 4 fk_RX5_16 rfl rfl ?_
      refine V_pb C hn [(.iload_n 1, 1)] (pc' := 27) (ls' := [(0, .ref (a0 0)), (1, .int v1)]) (st' := [.int v1, .ref (a0 3), .int ((m_kind S0) (ix v1)), .ref (a0 0), .int v1, .ref (a0 3)]) (decB_ok (by decide +kernel)) rfl rfl ?_
      refine V_iald C (f := (m_cell S0)) (by decide +kernel) 3 rfl h (fun h => ?_)
      obtain ⟨q5, h6, h⟩ := bnd h
      refine V_callV0 C (As := [.int ((m_kind S0) (ix v1)), .int ((m_cell S0) (ix v1))]) (rest := [.int v1, .ref (a0 3)]) (by decide +kernel) ok_yX5_goes mk_RX5_98 (cfX5_goes (l := E.l) (G := E.G) a0 h6) (q0 := 0) rfl rfl rfl rfl rfl rfl (Nat.le_of_ble_eq_true rfl) (Nat.le_of_ble_eq_true rfl) (Nat.le_of_ble_eq_true rfl) ?_
      show V E _ (wdM E.G a0 S0) 31 [(0, .ref (a0 0)), (1, .int v1)] [.int q5, .int v1, .ref (a0 3)]
      obtain ⟨hb9, h⟩ := gd_some h
      obtain ⟨w7, e8, h⟩ := bnd h
      refine V_iast C (f := (m_cell S0)) (ws' := wdM E.G a0 w7) (by decide +kernel) 3 rfl (o := some ()) (out := ()) (by rw [hb9]; rfl) (by cases e8; rfl) (fun _ => ?_)
      refine V_pb C hn [(.iinc 1 1, 3)] (pc' := 35) (ls' := [(0, .ref (a0 0)), (1, .int (v1 + (1 : Int32)))]) (st' := []) (decB_ok (by decide +kernel)) rfl rfl ?_
      refine V_goto C (off := -33) (tgt := 2) (by decide +kernel) (by decide) ?_
      refine V_sub (ls' := [(0, .ref (a0 0)), (1, .int (v1 + (1 : Int32)))]) rfl ?_
      exact ih _ _ h
set_option maxRecDepth 100000 in
set_option maxHeartbeats 400000 in
theorem cfX5_step {l : Launch} {G : GG} (a0 : Nat → Nat) {S0 : MT} {out : MT} (h : fX5_step S0 = some out) : Con l G 7 yX5_step cX5_step 2 none [.ref (a0 0)] (wdM G a0 S0) none (wdM G a0 out) := by
  refine Con_of (by decide +kernel) (Nat.le_of_ble_eq_true rfl) (fun E hl hG hn C => ?_)
  subst hl
  subst hG
  have C : Ctx E cX5_step RX5 7 none := C
  show V E _ _ 0 [(0, .ref (a0 0))] []
  unfold fX5_step at h
  refine V_pb C hn [(.iconst 0, 1), (.istore_n 1, 1)] (pc' := 2) (ls' := [(0, .ref (a0 0)), (1, .int (0 : Int32))]) (st' := []) (decB_ok (by decide +kernel)) rfl rfl ?_
  refine V_sub (ls' := [(0, .ref (a0 0)), (1, .int (0 : Int32))]) rfl ?_
  exact cfX5_step_L2 C hn FU _ _ h
set_option maxRecDepth 100000 in
set_option maxHeartbeats 400000 in
theorem cfX5_goesOn_L6 {E : VE} (C : Ctx E cX5_goesOn RX5 8 none) (hn : E.nL = 3) {a0 : Nat → Nat} {p1 : Int32} {out : MT} : ∀ (n : Nat) (v2 : Int32) (S0 : MT), fX5_goesOn_L6 p1 n v2 S0 = some out → V E (QR E none (wdM E.G a0 out)) (wdM E.G a0 S0) 6 [(0, .ref (a0 0)), (1, .int p1), (2, .int v2)] [] := by
  intro n
  induction n with
  | zero =>
    intro v2 S0 h
    cases h
  | succ n ih =>
    intro v2 S0 h
    unfold fX5_goesOn_L6 at h
    refine V_pb C hn [(.iload_n 2, 1), (.iload_n 1, 1)] (pc' := 8) (ls' := [(0, .ref (a0 0)), (1, .int p1), (2, .int v2)]) (st' := [.int p1, .int v2]) (decB_ok (by decide +kernel)) rfl rfl ?_
    refine V_ic_ge C (off := 13) (tgt := 21) (by decide +kernel) (by decide) h (fun _ h => ?_) (fun _ h => ?_)
    · have h := Option.some.inj h
      subst h
      exact V_vret C (by decide +kernel)
    · refine V_pb C hn [(.aload_n 0, 1)] (pc' := 12) (ls' := [(0, .ref (a0 0)), (1, .int p1), (2, .int v2)]) (st' := [.ref (a0 0)]) (decB_ok (by decide +kernel)) rfl rfl ?_
      obtain ⟨q3, h4, h⟩ := bnd h
      refine V_callV0 C (As := []) (rest := []) (by decide +kernel) ok_yX5_step mk_RX5_225 (cfX5_step (l := E.l) (G := E.G) a0 h4) (q0 := 0) rfl rfl rfl rfl rfl rfl (Nat.le_of_ble_eq_true rfl) (Nat.le_of_ble_eq_true rfl) (Nat.le_of_ble_eq_true rfl) ?_
      show V E _ (wdM E.G a0 q3) 15 [(0, .ref (a0 0)), (1, .int p1), (2, .int v2)] []
      refine V_pb C hn [(.iinc 2 1, 3)] (pc' := 18) (ls' := [(0, .ref (a0 0)), (1, .int p1), (2, .int (v2 + (1 : Int32)))]) (st' := []) (decB_ok (by decide +kernel)) rfl rfl ?_
      refine V_goto C (off := -12) (tgt := 6) (by decide +kernel) (by decide) ?_
      refine V_sub (ls' := [(0, .ref (a0 0)), (1, .int p1), (2, .int (v2 + (1 : Int32)))]) rfl ?_
      exact ih _ _ h
set_option maxRecDepth 100000 in
set_option maxHeartbeats 400000 in
theorem cfX5_goesOn {l : Launch} {G : GG} (a0 : Nat → Nat) {p1 : Int32} {S0 : MT} {out : MT} (h : fX5_goesOn p1 S0 = some out) : Con l G 8 yX5_goesOn cX5_goesOn 3 none [.ref (a0 0), .int p1] (wdM G a0 S0) none (wdM G a0 out) := by
  refine Con_of (by decide +kernel) (Nat.le_of_ble_eq_true rfl) (fun E hl hG hn C => ?_)
  subst hl
  subst hG
  have C : Ctx E cX5_goesOn RX5 8 none := C
  show V E _ _ 0 [(0, .ref (a0 0)), (1, .int p1)] []
  unfold fX5_goesOn at h
  refine V_pb C hn [(.aload_n 0, 1)] (pc' := 1) (ls' := [(0, .ref (a0 0)), (1, .int p1)]) (st' := [.ref (a0 0)]) (decB_ok (by decide +kernel)) rfl rfl ?_
  obtain ⟨q1, h2, h⟩ := bnd h
  refine V_callV0 C (As := []) (rest := []) (by decide +kernel) ok_yX5_begins mk_RX5_222 (cfX5_begins (l := E.l) (G := E.G) a0 h2) (q0 := 0) rfl rfl rfl rfl rfl rfl (Nat.le_of_ble_eq_true rfl) (Nat.le_of_ble_eq_true rfl) (Nat.le_of_ble_eq_true rfl) ?_
  show V E _ (wdM E.G a0 q1) 4 [(0, .ref (a0 0)), (1, .int p1)] []
  refine V_pb C hn [(.iconst 0, 1), (.istore_n 2, 1)] (pc' := 6) (ls' := [(0, .ref (a0 0)), (1, .int p1), (2, .int (0 : Int32))]) (st' := []) (decB_ok (by decide +kernel)) rfl rfl ?_
  refine V_sub (ls' := [(0, .ref (a0 0)), (1, .int p1), (2, .int (0 : Int32))]) rfl ?_
  exact cfX5_goesOn_L6 C hn FU _ _ h
set_option maxRecDepth 100000 in
set_option maxHeartbeats 400000 in
theorem cfX5_ends_j26 {E : VE} (C : Ctx E cX5_ends RX5 0 none) (hn : E.nL = 2) {a0 : Nat → Nat} {S0 : MT} {out : MT} (h : fX5_ends_j26 S0 = some out) : V E (QR E none (wdM E.G a0 out)) (wdM E.G a0 S0) 26 [(0, .ref (a0 0))] [] := by
  unfold fX5_ends_j26 at h
  refine V_pb C hn [(.aload_n 0, 1)] (pc' := 27) (ls' := [(0, .ref (a0 0))]) (st' := [.ref (a0 0)]) (decB_ok (by decide +kernel)) rfl rfl ?_
  refine V_get C (v := .ref (a0 4)) (by decide +kernel) 0 6 fk_RX5_19 rfl rfl ?_
  refine V_pb C hn [(.iconst 2, 1), (.aload_n 0, 1)] (pc' := 32) (ls' := [(0, .ref (a0 0))]) (st' := [.ref (a0 0), .int (2 : Int32), .ref (a0 4)]) (decB_ok (by decide +kernel)) rfl rfl ?_
  refine V_get C (v := .int (m_wasHour S0)) (by decide +kernel) 0 22 fk_RX5_219 rfl rfl ?_
  obtain ⟨hb9, h⟩ := gd_some h
  obtain ⟨w1, e2, h⟩ := bnd h
  refine V_iast C (f := (m_ways S0)) (ws' := wdM E.G a0 w1) (by decide +kernel) 4 rfl (o := some ()) (out := ()) (by rw [hb9]; rfl) (by cases e2; rfl) (fun _ => ?_)
  have h := Option.some.inj h
  subst h
  exact V_vret C (by decide +kernel)
set_option maxRecDepth 100000 in
set_option maxHeartbeats 400000 in
theorem cfX5_ends_L2 {E : VE} (C : Ctx E cX5_ends RX5 0 none) (hn : E.nL = 2) {a0 : Nat → Nat} {out : MT} : ∀ (n : Nat) (v1 : Int32) (S0 : MT), fX5_ends_L2 n v1 S0 = some out → V E (QR E none (wdM E.G a0 out)) (wdM E.G a0 S0) 2 [(0, .ref (a0 0)), (1, .int v1)] [] := by
  intro n
  induction n with
  | zero =>
    intro v1 S0 h
    cases h
  | succ n ih =>
    intro v1 S0 h
    unfold fX5_ends_L2 at h
    refine V_pb C hn [(.iload_n 1, 1), (.bipush 10, 2)] (pc' := 5) (ls' := [(0, .ref (a0 0)), (1, .int v1)]) (st' := [.int (10 : Int32), .int v1]) (decB_ok (by decide +kernel)) rfl rfl ?_
    refine V_ic_ge C (off := 21) (tgt := 26) (by decide +kernel) (by decide) h (fun _ h => ?_) (fun _ h => ?_)
    · refine V_sub (ls' := [(0, .ref (a0 0))]) rfl ?_
      exact cfX5_ends_j26 C hn h
    · refine V_pb C hn [(.aload_n 0, 1)] (pc' := 9) (ls' := [(0, .ref (a0 0)), (1, .int v1)]) (st' := [.ref (a0 0)]) (decB_ok (by decide +kernel)) rfl rfl ?_
      refine V_get C (v := .ref (a0 3)) (by decide +kernel) 0 4 fk_RX5_16 rfl rfl ?_
      refine V_pb C hn [(.iload_n 1, 1), (.aload_n 0, 1)] (pc' := 14) (ls' := [(0, .ref (a0 0)), (1, .int v1)]) (st' := [.ref (a0 0), .int v1, .ref (a0 3)]) (decB_ok (by decide +kernel)) rfl rfl ?_
      refine V_get C (v := .ref (a0 12)) (by decide +kernel) 0 21 fk_RX5_44 rfl rfl ?_
      refine V_pb C hn [(.iload_n 1, 1)] (pc' := 18) (ls' := [(0, .ref (a0 0)), (1, .int v1)]) (st' := [.int v1, .ref (a0 12), .int v1, .ref (a0 3)]) (decB_ok (by decide +kernel)) rfl rfl ?_
      refine V_iald C (f := (m_was S0)) (by decide +kernel) 12 rfl h (fun h => ?_)
      obtain ⟨x3, e4, h⟩ := bnd h
      refine V_topi e4 ?_
      obtain ⟨hb9, h⟩ := gd_some h
      obtain ⟨w5, e6, h⟩ := bnd h
      refine V_iast C (f := (m_cell S0)) (ws' := wdM E.G a0 w5) (by decide +kernel) 3 rfl (o := some ()) (out := ()) (by rw [hb9]; rfl) (by cases e6; rfl) (fun _ => ?_)
      refine V_pb C hn [(.iinc 1 1, 3)] (pc' := 23) (ls' := [(0, .ref (a0 0)), (1, .int (v1 + (1 : Int32)))]) (st' := []) (decB_ok (by decide +kernel)) rfl rfl ?_
      refine V_goto C (off := -21) (tgt := 2) (by decide +kernel) (by decide) ?_
      refine V_sub (ls' := [(0, .ref (a0 0)), (1, .int (v1 + (1 : Int32)))]) rfl ?_
      exact ih _ _ h
set_option maxRecDepth 100000 in
set_option maxHeartbeats 400000 in
theorem cfX5_ends {l : Launch} {G : GG} (a0 : Nat → Nat) {S0 : MT} {out : MT} (h : fX5_ends S0 = some out) : Con l G 0 yX5_ends cX5_ends 2 none [.ref (a0 0)] (wdM G a0 S0) none (wdM G a0 out) := by
  refine Con_of (by decide +kernel) (Nat.le_of_ble_eq_true rfl) (fun E hl hG hn C => ?_)
  subst hl
  subst hG
  have C : Ctx E cX5_ends RX5 0 none := C
  show V E _ _ 0 [(0, .ref (a0 0))] []
  unfold fX5_ends at h
  refine V_pb C hn [(.iconst 0, 1), (.istore_n 1, 1)] (pc' := 2) (ls' := [(0, .ref (a0 0)), (1, .int (0 : Int32))]) (st' := []) (decB_ok (by decide +kernel)) rfl rfl ?_
  refine V_sub (ls' := [(0, .ref (a0 0)), (1, .int (0 : Int32))]) rfl ?_
  exact cfX5_ends_L2 C hn FU _ _ h
set_option maxRecDepth 100000 in
set_option maxHeartbeats 400000 in
theorem cfX5_where_j15 {E : VE} (C : Ctx E cX5_where RX5 9 (some .int)) (hn : E.nL = 4) {a0 : Nat → Nat} {p1 : Int32} {p2 : Int32} {S0 : MT} {out : Int32 × MT} (h : fX5_where_j15 p1 p2 S0 = some out) : V E (QR E (some (.int out.1)) (wdM E.G a0 out.2)) (wdM E.G a0 S0) 15 [(0, .ref (a0 0))] [] := by
  unfold fX5_where_j15 at h
  refine V_pb C hn [(.aload_n 0, 1), (.bipush (-2), 2)] (pc' := 18) (ls' := [(0, .ref (a0 0))]) (st' := [.int (cI (-2)), .ref (a0 0)]) (decB_ok (by decide +kernel)) rfl rfl ?_
  obtain ⟨q3, h4, h⟩ := bnd h
  refine V_callV0 C (As := [.int (cI (-2))]) (rest := []) (by decide +kernel) ok_yX5_no mk_RX5_77 (cfX5_no (l := E.l) (G := E.G) a0 h4) (q0 := 0) rfl rfl rfl rfl rfl rfl (Nat.le_of_ble_eq_true rfl) (Nat.le_of_ble_eq_true rfl) (Nat.le_of_ble_eq_true rfl) ?_
  show V E _ (wdM E.G a0 q3.2) 21 [(0, .ref (a0 0))] [.int q3.1]
  have h := Option.some.inj h
  subst h
  exact V_iret C (by decide +kernel) rfl
set_option maxRecDepth 100000 in
set_option maxHeartbeats 400000 in
theorem cfX5_where {l : Launch} {G : GG} (a0 : Nat → Nat) {p1 : Int32} {p2 : Int32} {S0 : MT} {out : Int32 × MT} (h : fX5_where p1 p2 S0 = some out) : Con l G 9 yX5_where cX5_where 4 (some .int) [.ref (a0 0), .int p1, .int p2] (wdM G a0 S0) (some (.int out.1)) (wdM G a0 out.2) := by
  refine Con_of (by decide +kernel) (Nat.le_of_ble_eq_true rfl) (fun E hl hG hn C => ?_)
  subst hl
  subst hG
  have C : Ctx E cX5_where RX5 9 (some .int) := C
  show V E _ _ 0 [(0, .ref (a0 0)), (1, .int p1), (2, .int p2)] []
  unfold fX5_where at h
  refine V_pb C hn [(.aload_n 0, 1), (.iload_n 1, 1)] (pc' := 2) (ls' := [(0, .ref (a0 0)), (1, .int p1), (2, .int p2)]) (st' := [.int p1, .ref (a0 0)]) (decB_ok (by decide +kernel)) rfl rfl ?_
  obtain ⟨q1, h2, h⟩ := bnd h
  refine V_callV0 C (As := [.int p1]) (rest := []) (by decide +kernel) ok_yX5_isMote mk_RX5_91 (cfX5_isMote (l := E.l) (G := E.G) a0 h2) (q0 := 0) rfl rfl rfl rfl rfl rfl (Nat.le_of_ble_eq_true rfl) (Nat.le_of_ble_eq_true rfl) (Nat.le_of_ble_eq_true rfl) ?_
  show V E _ (wdM E.G a0 S0) 5 [(0, .ref (a0 0)), (1, .int p1), (2, .int p2)] [.int q1]
  refine V_if_eq C (off := 10) (tgt := 15) (by decide +kernel) (by decide) h (fun _ h => ?_) (fun _ h => ?_)
  · refine V_sub (ls' := [(0, .ref (a0 0))]) rfl ?_
    exact cfX5_where_j15 C hn h
  · refine V_pb C hn [(.iload_n 2, 1)] (pc' := 9) (ls' := [(0, .ref (a0 0)), (1, .int p1), (2, .int p2)]) (st' := [.int p2]) (decB_ok (by decide +kernel)) rfl rfl ?_
    obtain ⟨q5, h6, h⟩ := bnd h
    refine V_callSp C (As := [.int p2]) (rest := []) (by decide +kernel) ok_yX5_isTime mk_RX5_241 (cfX5_isTime (l := E.l) (G := E.G) h6) [] rfl rfl rfl rfl (Nat.le_of_ble_eq_true rfl) (Nat.le_of_ble_eq_true rfl) (Nat.le_of_ble_eq_true rfl) ?_
    show V E _ (wdM E.G a0 S0) 12 [(0, .ref (a0 0)), (1, .int p1), (2, .int p2)] [.int q5]
    refine V_if_ne C (off := 10) (tgt := 22) (by decide +kernel) (by decide) h (fun _ h => ?_) (fun _ h => ?_)
    · refine V_sub (ls' := [(0, .ref (a0 0))]) rfl ?_
      exact cfX5_where_j15 C hn h
    · refine V_pb C hn [(.aload_n 0, 1), (.iload_n 2, 1)] (pc' := 24) (ls' := [(0, .ref (a0 0)), (1, .int p1), (2, .int p2)]) (st' := [.int p2, .ref (a0 0)]) (decB_ok (by decide +kernel)) rfl rfl ?_
      obtain ⟨q7, h8, h⟩ := bnd h
      refine V_callV0 C (As := [.int p2]) (rest := []) (by decide +kernel) ok_yX5_goesOn mk_RX5_228 (cfX5_goesOn (l := E.l) (G := E.G) a0 h8) (q0 := 0) rfl rfl rfl rfl rfl rfl (Nat.le_of_ble_eq_true rfl) (Nat.le_of_ble_eq_true rfl) (Nat.le_of_ble_eq_true rfl) ?_
      show V E _ (wdM E.G a0 q7) 27 [(0, .ref (a0 0)), (1, .int p1), (2, .int p2)] []
      refine V_pb C hn [(.aload_n 0, 1)] (pc' := 28) (ls' := [(0, .ref (a0 0)), (1, .int p1), (2, .int p2)]) (st' := [.ref (a0 0)]) (decB_ok (by decide +kernel)) rfl rfl ?_
      refine V_get C (v := .ref (a0 3)) (by decide +kernel) 0 4 fk_RX5_16 rfl rfl ?_
      refine V_pb C hn [(.iload_n 1, 1)] (pc' := 32) (ls' := [(0, .ref (a0 0)), (1, .int p1), (2, .int p2)]) (st' := [.int p1, .ref (a0 3)]) (decB_ok (by decide +kernel)) rfl rfl ?_
      refine V_iald C (f := (m_cell q7)) (by decide +kernel) 3 rfl h (fun h => ?_)
      refine V_pb C hn [(.istore_n 3, 1), (.aload_n 0, 1)] (pc' := 35) (ls' := [(0, .ref (a0 0)), (1, .int p1), (2, .int p2), (3, .int ((m_cell q7) (ix p1)))]) (st' := [.ref (a0 0)]) (decB_ok (by decide +kernel)) rfl rfl ?_
      obtain ⟨q9, h10, h⟩ := bnd h
      refine V_callV0 C (As := []) (rest := []) (by decide +kernel) ok_yX5_ends mk_RX5_232 (cfX5_ends (l := E.l) (G := E.G) a0 h10) (q0 := 0) rfl rfl rfl rfl rfl rfl (Nat.le_of_ble_eq_true rfl) (Nat.le_of_ble_eq_true rfl) (Nat.le_of_ble_eq_true rfl) ?_
      show V E _ (wdM E.G a0 q9) 38 [(0, .ref (a0 0)), (1, .int p1), (2, .int p2), (3, .int ((m_cell q7) (ix p1)))] []
      refine V_pb C hn [(.iload_n 3, 1)] (pc' := 39) (ls' := [(0, .ref (a0 0)), (1, .int p1), (2, .int p2), (3, .int ((m_cell q7) (ix p1)))]) (st' := [.int ((m_cell q7) (ix p1))]) (decB_ok (by decide +kernel)) rfl rfl ?_
      have h := Option.some.inj h
      subst h
      exact V_iret C (by decide +kernel) rfl
set_option maxRecDepth 100000 in
set_option maxHeartbeats 400000 in
theorem cfX5_votesNow_j40 {E : VE} (C : Ctx E cX5_votesNow RX5 2 (some .int)) (hn : E.nL = 3) {a0 : Nat → Nat} {S0 : MT} {v1 : Int32} {v2 : Int32} {out : Int32} {k4 : Int32 → Int32 → Option (Int32)} (hk4 : ∀ (v1 : Int32) (v2 : Int32), k4 v1 v2 = some out → V E (QR E (some (.int out)) (wdM E.G a0 S0)) (wdM E.G a0 S0) 4 [(0, .ref (a0 0)), (1, .int v1), (2, .int v2)] []) (h : fX5_votesNow_j40 k4 S0 v1 v2 = some out) : V E (QR E (some (.int out)) (wdM E.G a0 S0)) (wdM E.G a0 S0) 40 [(0, .ref (a0 0)), (1, .int v1), (2, .int v2)] [] := by
  unfold fX5_votesNow_j40 at h
  refine V_pb C hn [(.iinc 2 1, 3)] (pc' := 43) (ls' := [(0, .ref (a0 0)), (1, .int v1), (2, .int (v2 + (1 : Int32)))]) (st' := []) (decB_ok (by decide +kernel)) rfl rfl ?_
  refine V_goto C (off := -39) (tgt := 4) (by decide +kernel) (by decide) ?_
  refine V_sub (ls' := [(0, .ref (a0 0)), (1, .int v1), (2, .int (v2 + (1 : Int32)))]) rfl ?_
  exact hk4 _ _ h
set_option maxRecDepth 100000 in
set_option maxHeartbeats 400000 in
theorem cfX5_votesNow_L4 {E : VE} (C : Ctx E cX5_votesNow RX5 2 (some .int)) (hn : E.nL = 3) {a0 : Nat → Nat} {S0 : MT} {out : Int32} : ∀ (n : Nat) (v1 : Int32) (v2 : Int32), fX5_votesNow_L4 S0 n v1 v2 = some out → V E (QR E (some (.int out)) (wdM E.G a0 S0)) (wdM E.G a0 S0) 4 [(0, .ref (a0 0)), (1, .int v1), (2, .int v2)] [] := by
  intro n
  induction n with
  | zero =>
    intro v1 v2 h
    cases h
  | succ n ih =>
    intro v1 v2 h
    unfold fX5_votesNow_L4 at h
    refine V_pb C hn [(.iload_n 2, 1), (.aload_n 0, 1)] (pc' := 6) (ls' := [(0, .ref (a0 0)), (1, .int v1), (2, .int v2)]) (st' := [.ref (a0 0), .int v2]) (decB_ok (by decide +kernel)) rfl rfl ?_
    refine V_get C (v := .int (m_motes S0)) (by decide +kernel) 0 1 fk_RX5_60 rfl rfl ?_
    refine V_ic_ge C (off := 37) (tgt := 46) (by decide +kernel) (by decide) h (fun _ h => ?_) (fun _ h => ?_)
    · refine V_pb C hn [(.iload_n 1, 1)] (pc' := 47) (ls' := [(0, .ref (a0 0)), (1, .int v1), (2, .int v2)]) (st' := [.int v1]) (decB_ok (by decide +kernel)) rfl rfl ?_
      have h := Option.some.inj h
      subst h
      exact V_iret C (by decide +kernel) rfl
    · refine V_pb C hn [(.aload_n 0, 1), (.aload_n 0, 1)] (pc' := 14) (ls' := [(0, .ref (a0 0)), (1, .int v1), (2, .int v2)]) (st' := [.ref (a0 0), .ref (a0 0)]) (decB_ok (by decide +kernel)) rfl rfl ?_
      refine V_get C (v := .ref (a0 3)) (by decide +kernel) 0 4 fk_RX5_16 rfl rfl ?_
      refine V_pb C hn [(.iload_n 2, 1)] (pc' := 18) (ls' := [(0, .ref (a0 0)), (1, .int v1), (2, .int v2)]) (st' := [.int v2, .ref (a0 3), .ref (a0 0)]) (decB_ok (by decide +kernel)) rfl rfl ?_
      refine V_iald C (f := (m_cell S0)) (by decide +kernel) 3 rfl h (fun h => ?_)
      refine V_pb C hn [(.aload_n 0, 1)] (pc' := 20) (ls' := [(0, .ref (a0 0)), (1, .int v1), (2, .int v2)]) (st' := [.ref (a0 0), .int ((m_cell S0) (ix v2)), .ref (a0 0)]) (decB_ok (by decide +kernel)) rfl rfl ?_
      refine V_get C (v := .ref (a0 4)) (by decide +kernel) 0 6 fk_RX5_19 rfl rfl ?_
      refine V_pb C hn [(.iconst 2, 1)] (pc' := 24) (ls' := [(0, .ref (a0 0)), (1, .int v1), (2, .int v2)]) (st' := [.int (2 : Int32), .ref (a0 4), .int ((m_cell S0) (ix v2)), .ref (a0 0)]) (decB_ok (by decide +kernel)) rfl rfl ?_
      refine V_iald C (f := (m_ways S0)) (by decide +kernel) 4 rfl h (fun h => ?_)
      obtain ⟨q1, h2, h⟩ := bnd h
      refine V_callV0 C (As := [.int ((m_cell S0) (ix v2)), .int ((m_ways S0) (ix (2 : Int32)))]) (rest := []) (by decide +kernel) ok_yX5_isLit mk_RX5_201 (cfX5_isLit (l := E.l) (G := E.G) a0 h2) (q0 := 0) rfl rfl rfl rfl rfl rfl (Nat.le_of_ble_eq_true rfl) (Nat.le_of_ble_eq_true rfl) (Nat.le_of_ble_eq_true rfl) ?_
      show V E _ (wdM E.G a0 S0) 28 [(0, .ref (a0 0)), (1, .int v1), (2, .int v2)] [.int q1]
      refine V_if_eq C (off := 12) (tgt := 40) (by decide +kernel) (by decide) h (fun _ h => ?_) (fun _ h => ?_)
      · refine V_sub (ls' := [(0, .ref (a0 0)), (1, .int v1), (2, .int v2)]) rfl ?_
        exact cfX5_votesNow_j40 C hn (k4 := (fun v1 v2 => fX5_votesNow_L4 S0 n v1 v2)) (fun v1 v2 h => ih v1 v2 h) h
      · refine V_pb C hn [(.iload_n 1, 1), (.aload_n 0, 1)] (pc' := 33) (ls' := [(0, .ref (a0 0)), (1, .int v1), (2, .int v2)]) (st' := [.ref (a0 0), .int v1]) (decB_ok (by decide +kernel)) rfl rfl ?_
        refine V_get C (v := .ref (a0 2)) (by decide +kernel) 0 3 fk_RX5_13 rfl rfl ?_
        refine V_pb C hn [(.iload_n 2, 1)] (pc' := 37) (ls' := [(0, .ref (a0 0)), (1, .int v1), (2, .int v2)]) (st' := [.int v2, .ref (a0 2), .int v1]) (decB_ok (by decide +kernel)) rfl rfl ?_
        refine V_iald C (f := (m_own S0)) (by decide +kernel) 2 rfl h (fun h => ?_)
        refine V_pb C hn [(.iadd, 1), (.istore_n 1, 1)] (pc' := 40) (ls' := [(0, .ref (a0 0)), (1, .int (v1 + ((m_own S0) (ix v2)))), (2, .int v2)]) (st' := []) (decB_ok (by decide +kernel)) rfl rfl ?_
        refine V_sub (ls' := [(0, .ref (a0 0)), (1, .int (v1 + ((m_own S0) (ix v2)))), (2, .int v2)]) rfl ?_
        exact cfX5_votesNow_j40 C hn (k4 := (fun v1 v2 => fX5_votesNow_L4 S0 n v1 v2)) (fun v1 v2 h => ih v1 v2 h) h
set_option maxRecDepth 100000 in
set_option maxHeartbeats 400000 in
theorem cfX5_votesNow {l : Launch} {G : GG} (a0 : Nat → Nat) {S0 : MT} {out : Int32} (h : fX5_votesNow S0 = some out) : Con l G 2 yX5_votesNow cX5_votesNow 3 (some .int) [.ref (a0 0)] (wdM G a0 S0) (some (.int out)) (wdM G a0 S0) := by
  refine Con_of (by decide +kernel) (Nat.le_of_ble_eq_true rfl) (fun E hl hG hn C => ?_)
  subst hl
  subst hG
  have C : Ctx E cX5_votesNow RX5 2 (some .int) := C
  show V E _ _ 0 [(0, .ref (a0 0))] []
  unfold fX5_votesNow at h
  refine V_pb C hn [(.iconst 0, 1), (.istore_n 1, 1), (.iconst 0, 1), (.istore_n 2, 1)] (pc' := 4) (ls' := [(0, .ref (a0 0)), (1, .int (0 : Int32)), (2, .int (0 : Int32))]) (st' := []) (decB_ok (by decide +kernel)) rfl rfl ?_
  refine V_sub (ls' := [(0, .ref (a0 0)), (1, .int (0 : Int32)), (2, .int (0 : Int32))]) rfl ?_
  exact cfX5_votesNow_L4 C hn FU _ _ h
set_option maxRecDepth 100000 in
set_option maxHeartbeats 400000 in
theorem cfX5_doesCarry {l : Launch} {G : GG} (a0 : Nat → Nat) {S0 : MT} {out : Int32} (h : fX5_doesCarry S0 = some out) : Con l G 3 yX5_doesCarry cX5_doesCarry 1 (some .boolean) [.ref (a0 0)] (wdM G a0 S0) (some (.int out)) (wdM G a0 S0) := by
  refine Con_of (by decide +kernel) (Nat.le_of_ble_eq_true rfl) (fun E hl hG hn C => ?_)
  subst hl
  subst hG
  have C : Ctx E cX5_doesCarry RX5 3 (some .boolean) := C
  show V E _ _ 0 [(0, .ref (a0 0))] []
  unfold fX5_doesCarry at h
  refine V_pb C hn [(.iconst 2, 1), (.aload_n 0, 1)] (pc' := 2) (ls' := [(0, .ref (a0 0))]) (st' := [.ref (a0 0), .int (2 : Int32)]) (decB_ok (by decide +kernel)) rfl rfl ?_
  obtain ⟨q1, h2, h⟩ := bnd h
  refine V_callV0 C (As := []) (rest := [.int (2 : Int32)]) (by decide +kernel) ok_yX5_votesNow mk_RX5_213 (cfX5_votesNow (l := E.l) (G := E.G) a0 h2) (q0 := 0) rfl rfl rfl rfl rfl rfl (Nat.le_of_ble_eq_true rfl) (Nat.le_of_ble_eq_true rfl) (Nat.le_of_ble_eq_true rfl) ?_
  show V E _ (wdM E.G a0 S0) 5 [(0, .ref (a0 0))] [.int q1, .int (2 : Int32)]
  refine V_pb C hn [(.imul, 1), (.aload_n 0, 1)] (pc' := 7) (ls' := [(0, .ref (a0 0))]) (st' := [.ref (a0 0), .int ((2 : Int32) * q1)]) (decB_ok (by decide +kernel)) rfl rfl ?_
  obtain ⟨q3, h4, h⟩ := bnd h
  refine V_callV0 C (As := []) (rest := [.int ((2 : Int32) * q1)]) (by decide +kernel) ok_yX5_allWeight mk_RX5_216 (cfX5_allWeight (l := E.l) (G := E.G) a0 h4) (q0 := 0) rfl rfl rfl rfl rfl rfl (Nat.le_of_ble_eq_true rfl) (Nat.le_of_ble_eq_true rfl) (Nat.le_of_ble_eq_true rfl) ?_
  show V E _ (wdM E.G a0 S0) 10 [(0, .ref (a0 0))] [.int q3, .int ((2 : Int32) * q1)]
  refine V_ic_le C (off := 7) (tgt := 17) (by decide +kernel) (by decide) h (fun _ h => ?_) (fun _ h => ?_)
  · refine V_pb C hn [(.iconst 0, 1)] (pc' := 18) (ls' := [(0, .ref (a0 0))]) (st' := [.int (0 : Int32)]) (decB_ok (by decide +kernel)) rfl rfl ?_
    have h := Option.some.inj h
    subst h
    exact V_iret C (v := (0 : Int32)) (by decide +kernel) nb0
  · refine V_pb C hn [(.iconst 1, 1)] (pc' := 14) (ls' := [(0, .ref (a0 0))]) (st' := [.int (1 : Int32)]) (decB_ok (by decide +kernel)) rfl rfl ?_
    refine V_goto C (off := 4) (tgt := 18) (by decide +kernel) (by decide) ?_
    have h := Option.some.inj h
    subst h
    exact V_iret C (v := (1 : Int32)) (by decide +kernel) nb1
set_option maxRecDepth 100000 in
set_option maxHeartbeats 400000 in
theorem cfX5_litNow_j34 {E : VE} (C : Ctx E cX5_litNow RX5 2 (some .int)) (hn : E.nL = 3) {a0 : Nat → Nat} {S0 : MT} {v1 : Int32} {v2 : Int32} {out : Int32} {k4 : Int32 → Int32 → Option (Int32)} (hk4 : ∀ (v1 : Int32) (v2 : Int32), k4 v1 v2 = some out → V E (QR E (some (.int out)) (wdM E.G a0 S0)) (wdM E.G a0 S0) 4 [(0, .ref (a0 0)), (1, .int v1), (2, .int v2)] []) (h : fX5_litNow_j34 k4 S0 v1 v2 = some out) : V E (QR E (some (.int out)) (wdM E.G a0 S0)) (wdM E.G a0 S0) 34 [(0, .ref (a0 0)), (1, .int v1), (2, .int v2)] [] := by
  unfold fX5_litNow_j34 at h
  refine V_pb C hn [(.iinc 2 1, 3)] (pc' := 37) (ls' := [(0, .ref (a0 0)), (1, .int v1), (2, .int (v2 + (1 : Int32)))]) (st' := []) (decB_ok (by decide +kernel)) rfl rfl ?_
  refine V_goto C (off := -33) (tgt := 4) (by decide +kernel) (by decide) ?_
  refine V_sub (ls' := [(0, .ref (a0 0)), (1, .int v1), (2, .int (v2 + (1 : Int32)))]) rfl ?_
  exact hk4 _ _ h
set_option maxRecDepth 100000 in
set_option maxHeartbeats 400000 in
theorem cfX5_litNow_L4 {E : VE} (C : Ctx E cX5_litNow RX5 2 (some .int)) (hn : E.nL = 3) {a0 : Nat → Nat} {S0 : MT} {out : Int32} : ∀ (n : Nat) (v1 : Int32) (v2 : Int32), fX5_litNow_L4 S0 n v1 v2 = some out → V E (QR E (some (.int out)) (wdM E.G a0 S0)) (wdM E.G a0 S0) 4 [(0, .ref (a0 0)), (1, .int v1), (2, .int v2)] [] := by
  intro n
  induction n with
  | zero =>
    intro v1 v2 h
    cases h
  | succ n ih =>
    intro v1 v2 h
    unfold fX5_litNow_L4 at h
    refine V_pb C hn [(.iload_n 2, 1), (.aload_n 0, 1)] (pc' := 6) (ls' := [(0, .ref (a0 0)), (1, .int v1), (2, .int v2)]) (st' := [.ref (a0 0), .int v2]) (decB_ok (by decide +kernel)) rfl rfl ?_
    refine V_get C (v := .int (m_motes S0)) (by decide +kernel) 0 1 fk_RX5_60 rfl rfl ?_
    refine V_ic_ge C (off := 31) (tgt := 40) (by decide +kernel) (by decide) h (fun _ h => ?_) (fun _ h => ?_)
    · refine V_pb C hn [(.iload_n 1, 1)] (pc' := 41) (ls' := [(0, .ref (a0 0)), (1, .int v1), (2, .int v2)]) (st' := [.int v1]) (decB_ok (by decide +kernel)) rfl rfl ?_
      have h := Option.some.inj h
      subst h
      exact V_iret C (by decide +kernel) rfl
    · refine V_pb C hn [(.aload_n 0, 1), (.aload_n 0, 1)] (pc' := 14) (ls' := [(0, .ref (a0 0)), (1, .int v1), (2, .int v2)]) (st' := [.ref (a0 0), .ref (a0 0)]) (decB_ok (by decide +kernel)) rfl rfl ?_
      refine V_get C (v := .ref (a0 3)) (by decide +kernel) 0 4 fk_RX5_16 rfl rfl ?_
      refine V_pb C hn [(.iload_n 2, 1)] (pc' := 18) (ls' := [(0, .ref (a0 0)), (1, .int v1), (2, .int v2)]) (st' := [.int v2, .ref (a0 3), .ref (a0 0)]) (decB_ok (by decide +kernel)) rfl rfl ?_
      refine V_iald C (f := (m_cell S0)) (by decide +kernel) 3 rfl h (fun h => ?_)
      refine V_pb C hn [(.aload_n 0, 1)] (pc' := 20) (ls' := [(0, .ref (a0 0)), (1, .int v1), (2, .int v2)]) (st' := [.ref (a0 0), .int ((m_cell S0) (ix v2)), .ref (a0 0)]) (decB_ok (by decide +kernel)) rfl rfl ?_
      refine V_get C (v := .ref (a0 4)) (by decide +kernel) 0 6 fk_RX5_19 rfl rfl ?_
      refine V_pb C hn [(.iconst 2, 1)] (pc' := 24) (ls' := [(0, .ref (a0 0)), (1, .int v1), (2, .int v2)]) (st' := [.int (2 : Int32), .ref (a0 4), .int ((m_cell S0) (ix v2)), .ref (a0 0)]) (decB_ok (by decide +kernel)) rfl rfl ?_
      refine V_iald C (f := (m_ways S0)) (by decide +kernel) 4 rfl h (fun h => ?_)
      obtain ⟨q1, h2, h⟩ := bnd h
      refine V_callV0 C (As := [.int ((m_cell S0) (ix v2)), .int ((m_ways S0) (ix (2 : Int32)))]) (rest := []) (by decide +kernel) ok_yX5_isLit mk_RX5_201 (cfX5_isLit (l := E.l) (G := E.G) a0 h2) (q0 := 0) rfl rfl rfl rfl rfl rfl (Nat.le_of_ble_eq_true rfl) (Nat.le_of_ble_eq_true rfl) (Nat.le_of_ble_eq_true rfl) ?_
      show V E _ (wdM E.G a0 S0) 28 [(0, .ref (a0 0)), (1, .int v1), (2, .int v2)] [.int q1]
      refine V_if_eq C (off := 6) (tgt := 34) (by decide +kernel) (by decide) h (fun _ h => ?_) (fun _ h => ?_)
      · refine V_sub (ls' := [(0, .ref (a0 0)), (1, .int v1), (2, .int v2)]) rfl ?_
        exact cfX5_litNow_j34 C hn (k4 := (fun v1 v2 => fX5_litNow_L4 S0 n v1 v2)) (fun v1 v2 h => ih v1 v2 h) h
      · refine V_pb C hn [(.iinc 1 1, 3)] (pc' := 34) (ls' := [(0, .ref (a0 0)), (1, .int (v1 + (1 : Int32))), (2, .int v2)]) (st' := []) (decB_ok (by decide +kernel)) rfl rfl ?_
        refine V_sub (ls' := [(0, .ref (a0 0)), (1, .int (v1 + (1 : Int32))), (2, .int v2)]) rfl ?_
        exact cfX5_litNow_j34 C hn (k4 := (fun v1 v2 => fX5_litNow_L4 S0 n v1 v2)) (fun v1 v2 h => ih v1 v2 h) h
set_option maxRecDepth 100000 in
set_option maxHeartbeats 400000 in
theorem cfX5_litNow {l : Launch} {G : GG} (a0 : Nat → Nat) {S0 : MT} {out : Int32} (h : fX5_litNow S0 = some out) : Con l G 2 yX5_litNow cX5_litNow 3 (some .int) [.ref (a0 0)] (wdM G a0 S0) (some (.int out)) (wdM G a0 S0) := by
  refine Con_of (by decide +kernel) (Nat.le_of_ble_eq_true rfl) (fun E hl hG hn C => ?_)
  subst hl
  subst hG
  have C : Ctx E cX5_litNow RX5 2 (some .int) := C
  show V E _ _ 0 [(0, .ref (a0 0))] []
  unfold fX5_litNow at h
  refine V_pb C hn [(.iconst 0, 1), (.istore_n 1, 1), (.iconst 0, 1), (.istore_n 2, 1)] (pc' := 4) (ls' := [(0, .ref (a0 0)), (1, .int (0 : Int32)), (2, .int (0 : Int32))]) (st' := []) (decB_ok (by decide +kernel)) rfl rfl ?_
  refine V_sub (ls' := [(0, .ref (a0 0)), (1, .int (0 : Int32)), (2, .int (0 : Int32))]) rfl ?_
  exact cfX5_litNow_L4 C hn FU _ _ h
set_option maxRecDepth 100000 in
set_option maxHeartbeats 400000 in
theorem cfX5_votes_j16 {E : VE} (C : Ctx E cX5_votes RX5 9 (some .int)) (hn : E.nL = 4) {a0 : Nat → Nat} {p1 : Int32} {p2 : Int32} {S0 : MT} {out : Int32 × MT} (h : fX5_votes_j16 p1 p2 S0 = some out) : V E (QR E (some (.int out.1)) (wdM E.G a0 out.2)) (wdM E.G a0 S0) 16 [(0, .ref (a0 0))] [] := by
  unfold fX5_votes_j16 at h
  refine V_pb C hn [(.aload_n 0, 1), (.bipush (-2), 2)] (pc' := 19) (ls' := [(0, .ref (a0 0))]) (st' := [.int (cI (-2)), .ref (a0 0)]) (decB_ok (by decide +kernel)) rfl rfl ?_
  obtain ⟨q3, h4, h⟩ := bnd h
  refine V_callV0 C (As := [.int (cI (-2))]) (rest := []) (by decide +kernel) ok_yX5_no mk_RX5_77 (cfX5_no (l := E.l) (G := E.G) a0 h4) (q0 := 0) rfl rfl rfl rfl rfl rfl (Nat.le_of_ble_eq_true rfl) (Nat.le_of_ble_eq_true rfl) (Nat.le_of_ble_eq_true rfl) ?_
  show V E _ (wdM E.G a0 q3.2) 22 [(0, .ref (a0 0))] [.int q3.1]
  have h := Option.some.inj h
  subst h
  exact V_iret C (by decide +kernel) rfl
set_option maxRecDepth 100000 in
set_option maxHeartbeats 400000 in
theorem cfX5_votes_j63 {E : VE} (C : Ctx E cX5_votes RX5 9 (some .int)) (hn : E.nL = 4) {a0 : Nat → Nat} {p1 : Int32} {p2 : Int32} {s0 : Int32} {S0 : MT} {out : Int32 × MT} (h : fX5_votes_j63 p1 p2 s0 S0 = some out) : V E (QR E (some (.int out.1)) (wdM E.G a0 out.2)) (wdM E.G a0 S0) 63 [(0, .ref (a0 0))] [.int s0] := by
  unfold fX5_votes_j63 at h
  refine V_pb C hn [(.istore_n 3, 1), (.aload_n 0, 1)] (pc' := 65) (ls' := [(0, .ref (a0 0)), (3, .int s0)]) (st' := [.ref (a0 0)]) (decB_ok (by decide +kernel)) rfl rfl ?_
  obtain ⟨q11, h12, h⟩ := bnd h
  refine V_callV0 C (As := []) (rest := []) (by decide +kernel) ok_yX5_ends mk_RX5_232 (cfX5_ends (l := E.l) (G := E.G) a0 h12) (q0 := 0) rfl rfl rfl rfl rfl rfl (Nat.le_of_ble_eq_true rfl) (Nat.le_of_ble_eq_true rfl) (Nat.le_of_ble_eq_true rfl) ?_
  show V E _ (wdM E.G a0 q11) 68 [(0, .ref (a0 0)), (3, .int s0)] []
  refine V_pb C hn [(.iload_n 3, 1)] (pc' := 69) (ls' := [(0, .ref (a0 0)), (3, .int s0)]) (st' := [.int s0]) (decB_ok (by decide +kernel)) rfl rfl ?_
  have h := Option.some.inj h
  subst h
  exact V_iret C (by decide +kernel) rfl
set_option maxRecDepth 100000 in
set_option maxHeartbeats 400000 in
theorem cfX5_votes {l : Launch} {G : GG} (a0 : Nat → Nat) {p1 : Int32} {p2 : Int32} {S0 : MT} {out : Int32 × MT} (h : fX5_votes p1 p2 S0 = some out) : Con l G 9 yX5_votes cX5_votes 4 (some .int) [.ref (a0 0), .int p1, .int p2] (wdM G a0 S0) (some (.int out.1)) (wdM G a0 out.2) := by
  refine Con_of (by decide +kernel) (Nat.le_of_ble_eq_true rfl) (fun E hl hG hn C => ?_)
  subst hl
  subst hG
  have C : Ctx E cX5_votes RX5 9 (some .int) := C
  show V E _ _ 0 [(0, .ref (a0 0)), (1, .int p1), (2, .int p2)] []
  unfold fX5_votes at h
  refine V_pb C hn [(.iload_n 1, 1)] (pc' := 1) (ls' := [(0, .ref (a0 0)), (1, .int p1), (2, .int p2)]) (st' := [.int p1]) (decB_ok (by decide +kernel)) rfl rfl ?_
  obtain ⟨q1, h2, h⟩ := bnd h
  refine V_callSp C (As := [.int p1]) (rest := []) (by decide +kernel) ok_yX5_isTime mk_RX5_241 (cfX5_isTime (l := E.l) (G := E.G) h2) [] rfl rfl rfl rfl (Nat.le_of_ble_eq_true rfl) (Nat.le_of_ble_eq_true rfl) (Nat.le_of_ble_eq_true rfl) ?_
  show V E _ (wdM E.G a0 S0) 4 [(0, .ref (a0 0)), (1, .int p1), (2, .int p2)] [.int q1]
  refine V_if_eq C (off := 12) (tgt := 16) (by decide +kernel) (by decide) h (fun _ h => ?_) (fun _ h => ?_)
  · refine V_sub (ls' := [(0, .ref (a0 0))]) rfl ?_
    exact cfX5_votes_j16 C hn h
  · refine V_pb C hn [(.iload_n 2, 1), (.iconst 0, 1), (.iconst 2, 1)] (pc' := 10) (ls' := [(0, .ref (a0 0)), (1, .int p1), (2, .int p2)]) (st' := [.int (2 : Int32), .int (0 : Int32), .int p2]) (decB_ok (by decide +kernel)) rfl rfl ?_
    obtain ⟨q5, h6, h⟩ := bnd h
    refine V_callSp C (As := [.int p2, .int (0 : Int32), .int (2 : Int32)]) (rest := []) (by decide +kernel) ok_yX5_within mk_RX5_63 (cfX5_within (l := E.l) (G := E.G) h6) [] rfl rfl rfl rfl (Nat.le_of_ble_eq_true rfl) (Nat.le_of_ble_eq_true rfl) (Nat.le_of_ble_eq_true rfl) ?_
    show V E _ (wdM E.G a0 S0) 13 [(0, .ref (a0 0)), (1, .int p1), (2, .int p2)] [.int q5]
    refine V_if_ne C (off := 10) (tgt := 23) (by decide +kernel) (by decide) h (fun _ h => ?_) (fun _ h => ?_)
    · refine V_sub (ls' := [(0, .ref (a0 0))]) rfl ?_
      exact cfX5_votes_j16 C hn h
    · refine V_pb C hn [(.aload_n 0, 1), (.iload_n 1, 1)] (pc' := 25) (ls' := [(0, .ref (a0 0)), (1, .int p1), (2, .int p2)]) (st' := [.int p1, .ref (a0 0)]) (decB_ok (by decide +kernel)) rfl rfl ?_
      obtain ⟨q7, h8, h⟩ := bnd h
      refine V_callV0 C (As := [.int p1]) (rest := []) (by decide +kernel) ok_yX5_goesOn mk_RX5_228 (cfX5_goesOn (l := E.l) (G := E.G) a0 h8) (q0 := 0) rfl rfl rfl rfl rfl rfl (Nat.le_of_ble_eq_true rfl) (Nat.le_of_ble_eq_true rfl) (Nat.le_of_ble_eq_true rfl) ?_
      show V E _ (wdM E.G a0 q7) 28 [(0, .ref (a0 0)), (1, .int p1), (2, .int p2)] []
      refine V_pb C hn [(.iload_n 2, 1)] (pc' := 29) (ls' := [(0, .ref (a0 0)), (1, .int p1), (2, .int p2)]) (st' := [.int p2]) (decB_ok (by decide +kernel)) rfl rfl ?_
      refine V_if_ne C (off := 10) (tgt := 39) (by decide +kernel) (by decide) h (fun _ h => ?_) (fun _ h => ?_)
      · refine V_pb C hn [(.aload_n 0, 1)] (pc' := 33) (ls' := [(0, .ref (a0 0)), (1, .int p1), (2, .int p2)]) (st' := [.ref (a0 0)]) (decB_ok (by decide +kernel)) rfl rfl ?_
        obtain ⟨q9, h10, h⟩ := bnd h
        refine V_callV0 C (As := []) (rest := []) (by decide +kernel) ok_yX5_votesNow mk_RX5_213 (cfX5_votesNow (l := E.l) (G := E.G) a0 h10) (q0 := 0) rfl rfl rfl rfl rfl rfl (Nat.le_of_ble_eq_true rfl) (Nat.le_of_ble_eq_true rfl) (Nat.le_of_ble_eq_true rfl) ?_
        show V E _ (wdM E.G a0 q7) 36 [(0, .ref (a0 0)), (1, .int p1), (2, .int p2)] [.int q9]
        refine V_goto C (off := 27) (tgt := 63) (by decide +kernel) (by decide) ?_
        refine V_sub (ls' := [(0, .ref (a0 0))]) rfl ?_
        exact cfX5_votes_j63 C hn h
      · refine V_pb C hn [(.iload_n 2, 1), (.iconst 1, 1)] (pc' := 41) (ls' := [(0, .ref (a0 0)), (1, .int p1), (2, .int p2)]) (st' := [.int (1 : Int32), .int p2]) (decB_ok (by decide +kernel)) rfl rfl ?_
        refine V_ic_ne C (off := 18) (tgt := 59) (by decide +kernel) (by decide) h (fun _ h => ?_) (fun _ h => ?_)
        · refine V_pb C hn [(.aload_n 0, 1)] (pc' := 45) (ls' := [(0, .ref (a0 0)), (1, .int p1), (2, .int p2)]) (st' := [.ref (a0 0)]) (decB_ok (by decide +kernel)) rfl rfl ?_
          obtain ⟨q13, h14, h⟩ := bnd h
          refine V_callV0 C (As := []) (rest := []) (by decide +kernel) ok_yX5_doesCarry mk_RX5_244 (cfX5_doesCarry (l := E.l) (G := E.G) a0 h14) (q0 := 0) rfl rfl rfl rfl rfl rfl (Nat.le_of_ble_eq_true rfl) (Nat.le_of_ble_eq_true rfl) (Nat.le_of_ble_eq_true rfl) ?_
          show V E _ (wdM E.G a0 q7) 48 [(0, .ref (a0 0)), (1, .int p1), (2, .int p2)] [.int q13]
          refine V_if_eq C (off := 7) (tgt := 55) (by decide +kernel) (by decide) h (fun _ h => ?_) (fun _ h => ?_)
          · refine V_pb C hn [(.iconst 0, 1)] (pc' := 56) (ls' := [(0, .ref (a0 0)), (1, .int p1), (2, .int p2)]) (st' := [.int (0 : Int32)]) (decB_ok (by decide +kernel)) rfl rfl ?_
            refine V_goto C (off := 7) (tgt := 63) (by decide +kernel) (by decide) ?_
            refine V_sub (ls' := [(0, .ref (a0 0))]) rfl ?_
            exact cfX5_votes_j63 C hn h
          · refine V_pb C hn [(.iconst 1, 1)] (pc' := 52) (ls' := [(0, .ref (a0 0)), (1, .int p1), (2, .int p2)]) (st' := [.int (1 : Int32)]) (decB_ok (by decide +kernel)) rfl rfl ?_
            refine V_goto C (off := 11) (tgt := 63) (by decide +kernel) (by decide) ?_
            refine V_sub (ls' := [(0, .ref (a0 0))]) rfl ?_
            exact cfX5_votes_j63 C hn h
        · refine V_pb C hn [(.aload_n 0, 1)] (pc' := 60) (ls' := [(0, .ref (a0 0)), (1, .int p1), (2, .int p2)]) (st' := [.ref (a0 0)]) (decB_ok (by decide +kernel)) rfl rfl ?_
          obtain ⟨q15, h16, h⟩ := bnd h
          refine V_callV0 C (As := []) (rest := []) (by decide +kernel) ok_yX5_litNow mk_RX5_247 (cfX5_litNow (l := E.l) (G := E.G) a0 h16) (q0 := 0) rfl rfl rfl rfl rfl rfl (Nat.le_of_ble_eq_true rfl) (Nat.le_of_ble_eq_true rfl) (Nat.le_of_ble_eq_true rfl) ?_
          show V E _ (wdM E.G a0 q7) 63 [(0, .ref (a0 0)), (1, .int p1), (2, .int p2)] [.int q15]
          refine V_sub (ls' := [(0, .ref (a0 0))]) rfl ?_
          exact cfX5_votes_j63 C hn h
