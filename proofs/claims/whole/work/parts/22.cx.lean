set_option maxRecDepth 100000 in
set_option maxHeartbeats 400000 in
theorem cfX4_thick_j85 {E : VE} (C : Ctx E cX4_thick RX4 5 (some .int)) (hn : E.nL = 7) {a0 : Nat → Nat} {p1 : Int32} {v2 : Int32} {v3 : Int32} {v4 : Int32} {S0 : XT} {out : Int32 × XT} {k26 : Int32 → Int32 → Int32 → XT → Option (Int32 × XT)} (hk26 : ∀ (v2 : Int32) (v3 : Int32) (v4 : Int32) (S0 : XT), k26 v2 v3 v4 S0 = some out → V E (QR E (some (.int out.1)) (wdX E.G a0 out.2)) (wdX E.G a0 S0) 26 [(0, .ref (a0 0)), (2, .int v2), (3, .int v3), (4, .int v4)] []) (h : fX4_thick_j85 k26 p1 v2 v3 v4 S0 = some out) : V E (QR E (some (.int out.1)) (wdX E.G a0 out.2)) (wdX E.G a0 S0) 85 [(0, .ref (a0 0)), (2, .int v2), (3, .int v3), (4, .int v4)] [] := by
  unfold fX4_thick_j85 at h
  refine V_pb C hn [(.iinc 4 1, 3)] (pc' := 88) (ls' := [(0, .ref (a0 0)), (2, .int v2), (3, .int v3), (4, .int (v4 + (1 : Int32)))]) (st' := []) (decB_ok (by decide +kernel)) rfl rfl ?_
  refine V_goto C (off := -62) (tgt := 26) (by decide +kernel) (by decide) ?_
  refine V_sub (ls' := [(0, .ref (a0 0)), (2, .int v2), (3, .int v3), (4, .int (v4 + (1 : Int32)))]) rfl ?_
  exact hk26 _ _ _ _ h
set_option maxRecDepth 100000 in
set_option maxHeartbeats 400000 in
theorem cfX4_thick_j79 {E : VE} (C : Ctx E cX4_thick RX4 5 (some .int)) (hn : E.nL = 7) {a0 : Nat → Nat} {p1 : Int32} {v4 : Int32} {v5 : Int32} {v6 : Int32} {S0 : XT} {out : Int32 × XT} {k26 : Int32 → Int32 → Int32 → XT → Option (Int32 × XT)} (hk26 : ∀ (v2 : Int32) (v3 : Int32) (v4 : Int32) (S0 : XT), k26 v2 v3 v4 S0 = some out → V E (QR E (some (.int out.1)) (wdX E.G a0 out.2)) (wdX E.G a0 S0) 26 [(0, .ref (a0 0)), (2, .int v2), (3, .int v3), (4, .int v4)] []) (h : fX4_thick_j79 k26 p1 v4 v5 v6 S0 = some out) : V E (QR E (some (.int out.1)) (wdX E.G a0 out.2)) (wdX E.G a0 S0) 79 [(0, .ref (a0 0)), (4, .int v4), (5, .int v5), (6, .int v6)] [] := by
  unfold fX4_thick_j79 at h
  refine V_pb C hn [(.iload 6, 2), (.istore_n 3, 1), (.iload 5, 2), (.istore_n 2, 1)] (pc' := 85) (ls' := [(0, .ref (a0 0)), (2, .int v5), (3, .int v6), (4, .int v4), (5, .int v5), (6, .int v6)]) (st' := []) (decB_ok (by decide +kernel)) rfl rfl ?_
  refine V_sub (ls' := [(0, .ref (a0 0)), (2, .int v5), (3, .int v6), (4, .int v4)]) rfl ?_
  exact cfX4_thick_j85 C hn (k26 := k26) (hk26) h
set_option maxRecDepth 100000 in
set_option maxHeartbeats 400000 in
theorem cfX4_thick_L26 {E : VE} (C : Ctx E cX4_thick RX4 5 (some .int)) (hn : E.nL = 7) {a0 : Nat → Nat} {p1 : Int32} {out : Int32 × XT} : ∀ (n : Nat) (v2 : Int32) (v3 : Int32) (v4 : Int32) (S0 : XT), fX4_thick_L26 p1 n v2 v3 v4 S0 = some out → V E (QR E (some (.int out.1)) (wdX E.G a0 out.2)) (wdX E.G a0 S0) 26 [(0, .ref (a0 0)), (2, .int v2), (3, .int v3), (4, .int v4)] [] := by
  intro n
  induction n with
  | zero =>
    intro v2 v3 v4 S0 h
    cases h
  | succ n ih =>
    intro v2 v3 v4 S0 h
    unfold fX4_thick_L26 at h
    refine V_pb C hn [(.iload 4, 2), (.aload_n 0, 1)] (pc' := 29) (ls' := [(0, .ref (a0 0)), (2, .int v2), (3, .int v3), (4, .int v4)]) (st' := [.ref (a0 0), .int v4]) (decB_ok (by decide +kernel)) rfl rfl ?_
    refine V_get C (v := .ref (a0 12)) (by decide +kernel) 0 2 fk_RX4_19 rfl rfl ?_
    refine V_get C (v := .int (h_count (x_trial S0))) (by decide +kernel) 12 1 fk_RX4_146 rfl rfl ?_
    refine V_ic_ge C (off := 56) (tgt := 91) (by decide +kernel) (by decide) h (fun _ h => ?_) (fun _ h => ?_)
    · refine V_pb C hn [(.iload_n 2, 1)] (pc' := 92) (ls' := [(0, .ref (a0 0)), (2, .int v2), (3, .int v3), (4, .int v4)]) (st' := [.int v2]) (decB_ok (by decide +kernel)) rfl rfl ?_
      have h := Option.some.inj h
      subst h
      exact V_iret C (by decide +kernel) rfl
    · refine V_pb C hn [(.aload_n 0, 1)] (pc' := 39) (ls' := [(0, .ref (a0 0)), (2, .int v2), (3, .int v3), (4, .int v4)]) (st' := [.ref (a0 0)]) (decB_ok (by decide +kernel)) rfl rfl ?_
      refine V_get C (v := .ref (a0 12)) (by decide +kernel) 0 2 fk_RX4_19 rfl rfl ?_
      refine V_get C (v := .ref (a0 15)) (by decide +kernel) 12 4 fk_RX4_122 rfl rfl ?_
      refine V_pb C hn [(.iload 4, 2)] (pc' := 47) (ls' := [(0, .ref (a0 0)), (2, .int v2), (3, .int v3), (4, .int v4)]) (st' := [.int v4, .ref (a0 15)]) (decB_ok (by decide +kernel)) rfl rfl ?_
      refine V_iald C (f := (h_cellOf (x_trial S0))) (by decide +kernel) 15 rfl h (fun h => ?_)
      refine V_pb C hn [(.istore 5, 2), (.aload_n 0, 1)] (pc' := 51) (ls' := [(0, .ref (a0 0)), (2, .int v2), (3, .int v3), (4, .int v4), (5, .int ((h_cellOf (x_trial S0)) (ix v4)))]) (st' := [.ref (a0 0)]) (decB_ok (by decide +kernel)) rfl rfl ?_
      refine V_get C (v := .ref (a0 12)) (by decide +kernel) 0 2 fk_RX4_19 rfl rfl ?_
      refine V_pb C hn [(.iload 5, 2)] (pc' := 56) (ls' := [(0, .ref (a0 0)), (2, .int v2), (3, .int v3), (4, .int v4), (5, .int ((h_cellOf (x_trial S0)) (ix v4)))]) (st' := [.int ((h_cellOf (x_trial S0)) (ix v4)), .ref (a0 12)]) (decB_ok (by decide +kernel)) rfl rfl ?_
      obtain ⟨q7, h8, h⟩ := bnd h
      refine V_callVp C (As := [.int ((h_cellOf (x_trial S0)) (ix v4))]) (rest := []) (by decide +kernel) ok_yX1_countIn mk_RX4_226 (cfX1_countIn (l := E.l) (G := E.G) (fun j => a0 (12 + j)) h8) [12, 13, 14, 15] (q0 := 0) rfl rfl rfl rfl rfl rfl rfl (Nat.le_of_ble_eq_true rfl) (Nat.le_of_ble_eq_true rfl) (Nat.le_of_ble_eq_true rfl) ?_
      show V E _ (wdX E.G a0 S0) 59 [(0, .ref (a0 0)), (2, .int v2), (3, .int v3), (4, .int v4), (5, .int ((h_cellOf (x_trial S0)) (ix v4)))] [.int q7]
      refine V_pb C hn [(.istore 6, 2), (.iload 6, 2), (.iload_n 3, 1)] (pc' := 64) (ls' := [(0, .ref (a0 0)), (2, .int v2), (3, .int v3), (4, .int v4), (5, .int ((h_cellOf (x_trial S0)) (ix v4))), (6, .int q7)]) (st' := [.int v3, .int q7]) (decB_ok (by decide +kernel)) rfl rfl ?_
      refine V_ic_gt C (off := 15) (tgt := 79) (by decide +kernel) (by decide) h (fun _ h => ?_) (fun _ h => ?_)
      · refine V_sub (ls' := [(0, .ref (a0 0)), (4, .int v4), (5, .int ((h_cellOf (x_trial S0)) (ix v4))), (6, .int q7)]) rfl ?_
        exact cfX4_thick_j79 C hn (k26 := (fun v2 v3 v4 S0 => fX4_thick_L26 p1 n v2 v3 v4 S0)) (fun v2 v3 v4 S0 h => ih v2 v3 v4 S0 h) h
      · refine V_pb C hn [(.iload 6, 2), (.iload_n 3, 1)] (pc' := 70) (ls' := [(0, .ref (a0 0)), (2, .int v2), (3, .int v3), (4, .int v4), (5, .int ((h_cellOf (x_trial S0)) (ix v4))), (6, .int q7)]) (st' := [.int v3, .int q7]) (decB_ok (by decide +kernel)) rfl rfl ?_
        refine V_ic_ne C (off := 15) (tgt := 85) (by decide +kernel) (by decide) h (fun _ h => ?_) (fun _ h => ?_)
        · refine V_pb C hn [(.iload 5, 2), (.iload_n 2, 1)] (pc' := 76) (ls' := [(0, .ref (a0 0)), (2, .int v2), (3, .int v3), (4, .int v4), (5, .int ((h_cellOf (x_trial S0)) (ix v4))), (6, .int q7)]) (st' := [.int v2, .int ((h_cellOf (x_trial S0)) (ix v4))]) (decB_ok (by decide +kernel)) rfl rfl ?_
          refine V_ic_ge C (off := 9) (tgt := 85) (by decide +kernel) (by decide) h (fun _ h => ?_) (fun _ h => ?_)
          · refine V_sub (ls' := [(0, .ref (a0 0)), (2, .int v2), (3, .int v3), (4, .int v4)]) rfl ?_
            exact cfX4_thick_j85 C hn (k26 := (fun v2 v3 v4 S0 => fX4_thick_L26 p1 n v2 v3 v4 S0)) (fun v2 v3 v4 S0 h => ih v2 v3 v4 S0 h) h
          · refine V_sub (ls' := [(0, .ref (a0 0)), (4, .int v4), (5, .int ((h_cellOf (x_trial S0)) (ix v4))), (6, .int q7)]) rfl ?_
            exact cfX4_thick_j79 C hn (k26 := (fun v2 v3 v4 S0 => fX4_thick_L26 p1 n v2 v3 v4 S0)) (fun v2 v3 v4 S0 h => ih v2 v3 v4 S0 h) h
        · refine V_sub (ls' := [(0, .ref (a0 0)), (2, .int v2), (3, .int v3), (4, .int v4)]) rfl ?_
          exact cfX4_thick_j85 C hn (k26 := (fun v2 v3 v4 S0 => fX4_thick_L26 p1 n v2 v3 v4 S0)) (fun v2 v3 v4 S0 h => ih v2 v3 v4 S0 h) h
set_option maxRecDepth 100000 in
set_option maxHeartbeats 400000 in
theorem cfX4_thick {l : Launch} {G : GG} (a0 : Nat → Nat) {p1 : Int32} {S0 : XT} {out : Int32 × XT} (h : fX4_thick p1 S0 = some out) : Con l G 5 yX4_thick cX4_thick 7 (some .int) [.ref (a0 0), .int p1] (wdX G a0 S0) (some (.int out.1)) (wdX G a0 out.2) := by
  refine Con_of (by decide +kernel) (Nat.le_of_ble_eq_true rfl) (fun E hl hG hn C => ?_)
  subst hl
  subst hG
  have C : Ctx E cX4_thick RX4 5 (some .int) := C
  show V E _ _ 0 [(0, .ref (a0 0)), (1, .int p1)] []
  unfold fX4_thick at h
  refine V_pb C hn [(.iload_n 1, 1)] (pc' := 1) (ls' := [(0, .ref (a0 0)), (1, .int p1)]) (st' := [.int p1]) (decB_ok (by decide +kernel)) rfl rfl ?_
  obtain ⟨q1, h2, h⟩ := bnd h
  refine V_callSp C (As := [.int p1]) (rest := []) (by decide +kernel) ok_yX4_isTime mk_RX4_194 (cfX4_isTime (l := E.l) (G := E.G) h2) [] rfl rfl rfl rfl (Nat.le_of_ble_eq_true rfl) (Nat.le_of_ble_eq_true rfl) (Nat.le_of_ble_eq_true rfl) ?_
  show V E _ (wdX E.G a0 S0) 4 [(0, .ref (a0 0)), (1, .int p1)] [.int q1]
  refine V_if_ne C (off := 10) (tgt := 14) (by decide +kernel) (by decide) h (fun _ h => ?_) (fun _ h => ?_)
  · refine V_pb C hn [(.aload_n 0, 1), (.bipush (-2), 2)] (pc' := 10) (ls' := [(0, .ref (a0 0)), (1, .int p1)]) (st' := [.int (cI (-2)), .ref (a0 0)]) (decB_ok (by decide +kernel)) rfl rfl ?_
    obtain ⟨q3, h4, h⟩ := bnd h
    refine V_callV0 C (As := [.int (cI (-2))]) (rest := []) (by decide +kernel) ok_yX4_refuse mk_RX4_57 (cfX4_refuse (l := E.l) (G := E.G) a0 h4) (q0 := 0) rfl rfl rfl rfl rfl rfl (Nat.le_of_ble_eq_true rfl) (Nat.le_of_ble_eq_true rfl) (Nat.le_of_ble_eq_true rfl) ?_
    show V E _ (wdX E.G a0 q3.2) 13 [(0, .ref (a0 0)), (1, .int p1)] [.int q3.1]
    have h := Option.some.inj h
    subst h
    exact V_iret C (by decide +kernel) rfl
  · refine V_pb C hn [(.aload_n 0, 1), (.iload_n 1, 1)] (pc' := 16) (ls' := [(0, .ref (a0 0)), (1, .int p1)]) (st' := [.int p1, .ref (a0 0)]) (decB_ok (by decide +kernel)) rfl rfl ?_
    obtain ⟨q5, h6, h⟩ := bnd h
    refine V_callV0 C (As := [.int p1]) (rest := []) (by decide +kernel) ok_yX4_lookAhead mk_RX4_201 (cfX4_lookAhead (l := E.l) (G := E.G) a0 h6) (q0 := 0) rfl rfl rfl rfl rfl rfl (Nat.le_of_ble_eq_true rfl) (Nat.le_of_ble_eq_true rfl) (Nat.le_of_ble_eq_true rfl) ?_
    show V E _ (wdX E.G a0 q5) 19 [(0, .ref (a0 0)), (1, .int p1)] []
    refine V_pb C hn [(.iconst 0, 1), (.istore_n 2, 1), (.iconst 0, 1), (.istore_n 3, 1), (.iconst 0, 1), (.istore 4, 2)] (pc' := 26) (ls' := [(0, .ref (a0 0)), (1, .int p1), (2, .int (0 : Int32)), (3, .int (0 : Int32)), (4, .int (0 : Int32))]) (st' := []) (decB_ok (by decide +kernel)) rfl rfl ?_
    refine V_sub (ls' := [(0, .ref (a0 0)), (2, .int (0 : Int32)), (3, .int (0 : Int32)), (4, .int (0 : Int32))]) rfl ?_
    exact cfX4_thick_L26 C hn FU _ _ _ _ h
set_option maxRecDepth 100000 in
set_option maxHeartbeats 400000 in
theorem cfX4_arrives_j19 {E : VE} (C : Ctx E cX4_arrives RX4 4 (some .int)) (hn : E.nL = 4) {a0 : Nat → Nat} {p1 : Int32} {p2 : Int32} {S0 : XT} {out : Int32 × XT} (h : fX4_arrives_j19 p1 p2 S0 = some out) : V E (QR E (some (.int out.1)) (wdX E.G a0 out.2)) (wdX E.G a0 S0) 19 [(0, .ref (a0 0))] [] := by
  unfold fX4_arrives_j19 at h
  refine V_pb C hn [(.aload_n 0, 1), (.bipush (-2), 2)] (pc' := 22) (ls' := [(0, .ref (a0 0))]) (st' := [.int (cI (-2)), .ref (a0 0)]) (decB_ok (by decide +kernel)) rfl rfl ?_
  obtain ⟨q3, h4, h⟩ := bnd h
  refine V_callV0 C (As := [.int (cI (-2))]) (rest := []) (by decide +kernel) ok_yX4_refuse mk_RX4_57 (cfX4_refuse (l := E.l) (G := E.G) a0 h4) (q0 := 0) rfl rfl rfl rfl rfl rfl (Nat.le_of_ble_eq_true rfl) (Nat.le_of_ble_eq_true rfl) (Nat.le_of_ble_eq_true rfl) ?_
  show V E _ (wdX E.G a0 q3.2) 25 [(0, .ref (a0 0))] [.int q3.1]
  have h := Option.some.inj h
  subst h
  exact V_iret C (by decide +kernel) rfl
set_option maxRecDepth 100000 in
set_option maxHeartbeats 400000 in
theorem cfX4_arrives_L39 {E : VE} (C : Ctx E cX4_arrives RX4 4 (some .int)) (hn : E.nL = 4) {a0 : Nat → Nat} {p1 : Int32} {p2 : Int32} {out : Int32 × XT} : ∀ (n : Nat) (v3 : Int32) (S0 : XT), fX4_arrives_L39 p1 p2 n v3 S0 = some out → V E (QR E (some (.int out.1)) (wdX E.G a0 out.2)) (wdX E.G a0 S0) 39 [(0, .ref (a0 0)), (1, .int p1), (2, .int p2), (3, .int v3)] [] := by
  intro n
  induction n with
  | zero =>
    intro v3 S0 h
    cases h
  | succ n ih =>
    intro v3 S0 h
    unfold fX4_arrives_L39 at h
    refine V_pb C hn [(.iload_n 3, 1), (.bipush 24, 2)] (pc' := 42) (ls' := [(0, .ref (a0 0)), (1, .int p1), (2, .int p2), (3, .int v3)]) (st' := [.int (24 : Int32), .int v3]) (decB_ok (by decide +kernel)) rfl rfl ?_
    refine V_ic_gt C (off := 32) (tgt := 74) (by decide +kernel) (by decide) h (fun _ h => ?_) (fun _ h => ?_)
    · refine V_pb C hn [(.iconst (-1), 1)] (pc' := 75) (ls' := [(0, .ref (a0 0)), (1, .int p1), (2, .int p2), (3, .int v3)]) (st' := [.int (cI (-1))]) (decB_ok (by decide +kernel)) rfl rfl ?_
      have h := Option.some.inj h
      subst h
      exact V_iret C (by decide +kernel) rfl
    · refine V_pb C hn [(.aload_n 0, 1)] (pc' := 46) (ls' := [(0, .ref (a0 0)), (1, .int p1), (2, .int p2), (3, .int v3)]) (st' := [.ref (a0 0)]) (decB_ok (by decide +kernel)) rfl rfl ?_
      refine V_get C (v := .ref (a0 12)) (by decide +kernel) 0 2 fk_RX4_19 rfl rfl ?_
      refine V_get C (v := .ref (a0 15)) (by decide +kernel) 12 4 fk_RX4_122 rfl rfl ?_
      refine V_pb C hn [(.iload_n 1, 1)] (pc' := 53) (ls' := [(0, .ref (a0 0)), (1, .int p1), (2, .int p2), (3, .int v3)]) (st' := [.int p1, .ref (a0 15)]) (decB_ok (by decide +kernel)) rfl rfl ?_
      refine V_iald C (f := (h_cellOf (x_trial S0))) (by decide +kernel) 15 rfl h (fun h => ?_)
      refine V_pb C hn [(.iload_n 2, 1)] (pc' := 55) (ls' := [(0, .ref (a0 0)), (1, .int p1), (2, .int p2), (3, .int v3)]) (st' := [.int p2, .int ((h_cellOf (x_trial S0)) (ix p1))]) (decB_ok (by decide +kernel)) rfl rfl ?_
      refine V_ic_ne C (off := 5) (tgt := 60) (by decide +kernel) (by decide) h (fun _ h => ?_) (fun _ h => ?_)
      · refine V_pb C hn [(.iload_n 3, 1)] (pc' := 59) (ls' := [(0, .ref (a0 0)), (1, .int p1), (2, .int p2), (3, .int v3)]) (st' := [.int v3]) (decB_ok (by decide +kernel)) rfl rfl ?_
        have h := Option.some.inj h
        subst h
        exact V_iret C (by decide +kernel) rfl
      · refine V_pb C hn [(.aload_n 0, 1)] (pc' := 61) (ls' := [(0, .ref (a0 0)), (1, .int p1), (2, .int p2), (3, .int v3)]) (st' := [.ref (a0 0)]) (decB_ok (by decide +kernel)) rfl rfl ?_
        refine V_get C (v := .ref (a0 12)) (by decide +kernel) 0 2 fk_RX4_19 rfl rfl ?_
        refine V_pb C hn [(.iconst 1, 1)] (pc' := 65) (ls' := [(0, .ref (a0 0)), (1, .int p1), (2, .int p2), (3, .int v3)]) (st' := [.int (1 : Int32), .ref (a0 12)]) (decB_ok (by decide +kernel)) rfl rfl ?_
        obtain ⟨q9, h10, h⟩ := bnd h
        refine V_callV (ws' := wdX E.G a0 (xs_trial S0 q9)) C (As := [.int (1 : Int32)]) (rest := []) (by decide +kernel) ok_yX1_goOn mk_RX4_229 (cfX1_goOn (l := E.l) (G := E.G) (fun j => a0 (12 + j)) h10) [12, 13, 14, 15] (q0 := 0) rfl rfl rfl rfl rfl rfl rfl rfl rfl (Nat.le_of_ble_eq_true rfl) (Nat.le_of_ble_eq_true rfl) (Nat.le_of_ble_eq_true rfl) ?_
        show V E _ (wdX E.G a0 (xs_trial S0 q9)) 68 [(0, .ref (a0 0)), (1, .int p1), (2, .int p2), (3, .int v3)] []
        refine V_pb C hn [(.iinc 3 1, 3)] (pc' := 71) (ls' := [(0, .ref (a0 0)), (1, .int p1), (2, .int p2), (3, .int (v3 + (1 : Int32)))]) (st' := []) (decB_ok (by decide +kernel)) rfl rfl ?_
        refine V_goto C (off := -32) (tgt := 39) (by decide +kernel) (by decide) ?_
        refine V_sub (ls' := [(0, .ref (a0 0)), (1, .int p1), (2, .int p2), (3, .int (v3 + (1 : Int32)))]) rfl ?_
        exact ih _ _ h
set_option maxRecDepth 100000 in
set_option maxHeartbeats 400000 in
theorem cfX4_arrives {l : Launch} {G : GG} (a0 : Nat → Nat) {p1 : Int32} {p2 : Int32} {S0 : XT} {out : Int32 × XT} (h : fX4_arrives p1 p2 S0 = some out) : Con l G 4 yX4_arrives cX4_arrives 4 (some .int) [.ref (a0 0), .int p1, .int p2] (wdX G a0 S0) (some (.int out.1)) (wdX G a0 out.2) := by
  refine Con_of (by decide +kernel) (Nat.le_of_ble_eq_true rfl) (fun E hl hG hn C => ?_)
  subst hl
  subst hG
  have C : Ctx E cX4_arrives RX4 4 (some .int) := C
  show V E _ _ 0 [(0, .ref (a0 0)), (1, .int p1), (2, .int p2)] []
  unfold fX4_arrives at h
  refine V_pb C hn [(.aload_n 0, 1), (.iload_n 1, 1)] (pc' := 2) (ls' := [(0, .ref (a0 0)), (1, .int p1), (2, .int p2)]) (st' := [.int p1, .ref (a0 0)]) (decB_ok (by decide +kernel)) rfl rfl ?_
  obtain ⟨q1, h2, h⟩ := bnd h
  refine V_callV0 C (As := [.int p1]) (rest := []) (by decide +kernel) ok_yX4_isMote mk_RX4_100 (cfX4_isMote (l := E.l) (G := E.G) a0 h2) (q0 := 0) rfl rfl rfl rfl rfl rfl (Nat.le_of_ble_eq_true rfl) (Nat.le_of_ble_eq_true rfl) (Nat.le_of_ble_eq_true rfl) ?_
  show V E _ (wdX E.G a0 S0) 5 [(0, .ref (a0 0)), (1, .int p1), (2, .int p2)] [.int q1]
  refine V_if_eq C (off := 14) (tgt := 19) (by decide +kernel) (by decide) h (fun _ h => ?_) (fun _ h => ?_)
  · refine V_sub (ls' := [(0, .ref (a0 0))]) rfl ?_
    exact cfX4_arrives_j19 C hn h
  · refine V_pb C hn [(.aload_n 0, 1)] (pc' := 9) (ls' := [(0, .ref (a0 0)), (1, .int p1), (2, .int p2)]) (st' := [.ref (a0 0)]) (decB_ok (by decide +kernel)) rfl rfl ?_
    refine V_get C (v := .ref (a0 4)) (by decide +kernel) 0 0 fk_RX4_12 rfl rfl ?_
    refine V_pb C hn [(.iload_n 2, 1)] (pc' := 13) (ls' := [(0, .ref (a0 0)), (1, .int p1), (2, .int p2)]) (st' := [.int p2, .ref (a0 4)]) (decB_ok (by decide +kernel)) rfl rfl ?_
    obtain ⟨q5, h6, h⟩ := bnd h
    refine V_callVp C (As := [.int p2]) (rest := []) (by decide +kernel) ok_yX1_isCell mk_RX4_135 (cfX1_isCell (l := E.l) (G := E.G) (fun j => a0 (4 + j)) h6) [4, 5, 6, 7] (q0 := 0) rfl rfl rfl rfl rfl rfl rfl (Nat.le_of_ble_eq_true rfl) (Nat.le_of_ble_eq_true rfl) (Nat.le_of_ble_eq_true rfl) ?_
    show V E _ (wdX E.G a0 S0) 16 [(0, .ref (a0 0)), (1, .int p1), (2, .int p2)] [.int q5]
    refine V_if_ne C (off := 10) (tgt := 26) (by decide +kernel) (by decide) h (fun _ h => ?_) (fun _ h => ?_)
    · refine V_sub (ls' := [(0, .ref (a0 0))]) rfl ?_
      exact cfX4_arrives_j19 C hn h
    · refine V_pb C hn [(.aload_n 0, 1)] (pc' := 27) (ls' := [(0, .ref (a0 0)), (1, .int p1), (2, .int p2)]) (st' := [.ref (a0 0)]) (decB_ok (by decide +kernel)) rfl rfl ?_
      refine V_get C (v := .ref (a0 12)) (by decide +kernel) 0 2 fk_RX4_19 rfl rfl ?_
      refine V_pb C hn [(.aload_n 0, 1)] (pc' := 31) (ls' := [(0, .ref (a0 0)), (1, .int p1), (2, .int p2)]) (st' := [.ref (a0 0), .ref (a0 12)]) (decB_ok (by decide +kernel)) rfl rfl ?_
      refine V_get C (v := .ref (a0 4)) (by decide +kernel) 0 0 fk_RX4_12 rfl rfl ?_
      obtain ⟨q7, h8, h⟩ := bnd h
      refine V_callV (ws' := wdX E.G a0 (xs_trial S0 q7)) C (As := [.ref (a0 4)]) (rest := []) (by decide +kernel) ok_yX1_takeOver mk_RX4_170 (cfX1_takeOver (l := E.l) (G := E.G) (fun j => a0 (12 + j)) (fun j => a0 (4 + j)) h8) [12, 13, 14, 15, 4, 5, 6, 7] (q0 := 0) rfl rfl rfl rfl rfl rfl rfl rfl rfl (Nat.le_of_ble_eq_true rfl) (Nat.le_of_ble_eq_true rfl) (Nat.le_of_ble_eq_true rfl) ?_
      show V E _ (wdX E.G a0 (xs_trial S0 q7)) 37 [(0, .ref (a0 0)), (1, .int p1), (2, .int p2)] []
      refine V_pb C hn [(.iconst 0, 1), (.istore_n 3, 1)] (pc' := 39) (ls' := [(0, .ref (a0 0)), (1, .int p1), (2, .int p2), (3, .int (0 : Int32))]) (st' := []) (decB_ok (by decide +kernel)) rfl rfl ?_
      refine V_sub (ls' := [(0, .ref (a0 0)), (1, .int p1), (2, .int p2), (3, .int (0 : Int32))]) rfl ?_
      exact cfX4_arrives_L39 C hn FU _ _ h
set_option maxRecDepth 100000 in
set_option maxHeartbeats 400000 in
theorem cfX4_lights_L28 {E : VE} (C : Ctx E cX4_lights RX4 4 (some .int)) (hn : E.nL = 3) {a0 : Nat → Nat} {p1 : Int32} {out : Int32 × XT} : ∀ (n : Nat) (v2 : Int32) (S0 : XT), fX4_lights_L28 p1 n v2 S0 = some out → V E (QR E (some (.int out.1)) (wdX E.G a0 out.2)) (wdX E.G a0 S0) 28 [(0, .ref (a0 0)), (1, .int p1), (2, .int v2)] [] := by
  intro n
  induction n with
  | zero =>
    intro v2 S0 h
    cases h
  | succ n ih =>
    intro v2 S0 h
    unfold fX4_lights_L28 at h
    refine V_pb C hn [(.iload_n 2, 1), (.bipush 24, 2)] (pc' := 31) (ls' := [(0, .ref (a0 0)), (1, .int p1), (2, .int v2)]) (st' := [.int (24 : Int32), .int v2]) (decB_ok (by decide +kernel)) rfl rfl ?_
    refine V_ic_gt C (off := 38) (tgt := 69) (by decide +kernel) (by decide) h (fun _ h => ?_) (fun _ h => ?_)
    · refine V_pb C hn [(.iconst (-1), 1)] (pc' := 70) (ls' := [(0, .ref (a0 0)), (1, .int p1), (2, .int v2)]) (st' := [.int (cI (-1))]) (decB_ok (by decide +kernel)) rfl rfl ?_
      have h := Option.some.inj h
      subst h
      exact V_iret C (by decide +kernel) rfl
    · refine V_pb C hn [(.aload_n 0, 1)] (pc' := 35) (ls' := [(0, .ref (a0 0)), (1, .int p1), (2, .int v2)]) (st' := [.ref (a0 0)]) (decB_ok (by decide +kernel)) rfl rfl ?_
      refine V_get C (v := .ref (a0 12)) (by decide +kernel) 0 2 fk_RX4_19 rfl rfl ?_
      refine V_pb C hn [(.aload_n 0, 1)] (pc' := 39) (ls' := [(0, .ref (a0 0)), (1, .int p1), (2, .int v2)]) (st' := [.ref (a0 0), .ref (a0 12)]) (decB_ok (by decide +kernel)) rfl rfl ?_
      refine V_get C (v := .ref (a0 12)) (by decide +kernel) 0 2 fk_RX4_19 rfl rfl ?_
      refine V_get C (v := .ref (a0 15)) (by decide +kernel) 12 4 fk_RX4_122 rfl rfl ?_
      refine V_pb C hn [(.iload_n 1, 1)] (pc' := 46) (ls' := [(0, .ref (a0 0)), (1, .int p1), (2, .int v2)]) (st' := [.int p1, .ref (a0 15), .ref (a0 12)]) (decB_ok (by decide +kernel)) rfl rfl ?_
      refine V_iald C (f := (h_cellOf (x_trial S0))) (by decide +kernel) 15 rfl h (fun h => ?_)
      obtain ⟨q7, h8, h⟩ := bnd h
      refine V_callVp C (As := [.int ((h_cellOf (x_trial S0)) (ix p1))]) (rest := []) (by decide +kernel) ok_yX1_isLit mk_RX4_181 (cfX1_isLit (l := E.l) (G := E.G) (fun j => a0 (12 + j)) h8) [12, 13, 14, 15] (q0 := 0) rfl rfl rfl rfl rfl rfl rfl (Nat.le_of_ble_eq_true rfl) (Nat.le_of_ble_eq_true rfl) (Nat.le_of_ble_eq_true rfl) ?_
      show V E _ (wdX E.G a0 S0) 50 [(0, .ref (a0 0)), (1, .int p1), (2, .int v2)] [.int q7]
      refine V_if_eq C (off := 5) (tgt := 55) (by decide +kernel) (by decide) h (fun _ h => ?_) (fun _ h => ?_)
      · refine V_pb C hn [(.aload_n 0, 1)] (pc' := 56) (ls' := [(0, .ref (a0 0)), (1, .int p1), (2, .int v2)]) (st' := [.ref (a0 0)]) (decB_ok (by decide +kernel)) rfl rfl ?_
        refine V_get C (v := .ref (a0 12)) (by decide +kernel) 0 2 fk_RX4_19 rfl rfl ?_
        refine V_pb C hn [(.iconst 1, 1)] (pc' := 60) (ls' := [(0, .ref (a0 0)), (1, .int p1), (2, .int v2)]) (st' := [.int (1 : Int32), .ref (a0 12)]) (decB_ok (by decide +kernel)) rfl rfl ?_
        obtain ⟨q9, h10, h⟩ := bnd h
        refine V_callV (ws' := wdX E.G a0 (xs_trial S0 q9)) C (As := [.int (1 : Int32)]) (rest := []) (by decide +kernel) ok_yX1_goOn mk_RX4_229 (cfX1_goOn (l := E.l) (G := E.G) (fun j => a0 (12 + j)) h10) [12, 13, 14, 15] (q0 := 0) rfl rfl rfl rfl rfl rfl rfl rfl rfl (Nat.le_of_ble_eq_true rfl) (Nat.le_of_ble_eq_true rfl) (Nat.le_of_ble_eq_true rfl) ?_
        show V E _ (wdX E.G a0 (xs_trial S0 q9)) 63 [(0, .ref (a0 0)), (1, .int p1), (2, .int v2)] []
        refine V_pb C hn [(.iinc 2 1, 3)] (pc' := 66) (ls' := [(0, .ref (a0 0)), (1, .int p1), (2, .int (v2 + (1 : Int32)))]) (st' := []) (decB_ok (by decide +kernel)) rfl rfl ?_
        refine V_goto C (off := -38) (tgt := 28) (by decide +kernel) (by decide) ?_
        refine V_sub (ls' := [(0, .ref (a0 0)), (1, .int p1), (2, .int (v2 + (1 : Int32)))]) rfl ?_
        exact ih _ _ h
      · refine V_pb C hn [(.iload_n 2, 1)] (pc' := 54) (ls' := [(0, .ref (a0 0)), (1, .int p1), (2, .int v2)]) (st' := [.int v2]) (decB_ok (by decide +kernel)) rfl rfl ?_
        have h := Option.some.inj h
        subst h
        exact V_iret C (by decide +kernel) rfl
set_option maxRecDepth 100000 in
set_option maxHeartbeats 400000 in
theorem cfX4_lights {l : Launch} {G : GG} (a0 : Nat → Nat) {p1 : Int32} {S0 : XT} {out : Int32 × XT} (h : fX4_lights p1 S0 = some out) : Con l G 4 yX4_lights cX4_lights 3 (some .int) [.ref (a0 0), .int p1] (wdX G a0 S0) (some (.int out.1)) (wdX G a0 out.2) := by
  refine Con_of (by decide +kernel) (Nat.le_of_ble_eq_true rfl) (fun E hl hG hn C => ?_)
  subst hl
  subst hG
  have C : Ctx E cX4_lights RX4 4 (some .int) := C
  show V E _ _ 0 [(0, .ref (a0 0)), (1, .int p1)] []
  unfold fX4_lights at h
  refine V_pb C hn [(.aload_n 0, 1), (.iload_n 1, 1)] (pc' := 2) (ls' := [(0, .ref (a0 0)), (1, .int p1)]) (st' := [.int p1, .ref (a0 0)]) (decB_ok (by decide +kernel)) rfl rfl ?_
  obtain ⟨q1, h2, h⟩ := bnd h
  refine V_callV0 C (As := [.int p1]) (rest := []) (by decide +kernel) ok_yX4_isMote mk_RX4_100 (cfX4_isMote (l := E.l) (G := E.G) a0 h2) (q0 := 0) rfl rfl rfl rfl rfl rfl (Nat.le_of_ble_eq_true rfl) (Nat.le_of_ble_eq_true rfl) (Nat.le_of_ble_eq_true rfl) ?_
  show V E _ (wdX E.G a0 S0) 5 [(0, .ref (a0 0)), (1, .int p1)] [.int q1]
  refine V_if_ne C (off := 10) (tgt := 15) (by decide +kernel) (by decide) h (fun _ h => ?_) (fun _ h => ?_)
  · refine V_pb C hn [(.aload_n 0, 1), (.bipush (-2), 2)] (pc' := 11) (ls' := [(0, .ref (a0 0)), (1, .int p1)]) (st' := [.int (cI (-2)), .ref (a0 0)]) (decB_ok (by decide +kernel)) rfl rfl ?_
    obtain ⟨q3, h4, h⟩ := bnd h
    refine V_callV0 C (As := [.int (cI (-2))]) (rest := []) (by decide +kernel) ok_yX4_refuse mk_RX4_57 (cfX4_refuse (l := E.l) (G := E.G) a0 h4) (q0 := 0) rfl rfl rfl rfl rfl rfl (Nat.le_of_ble_eq_true rfl) (Nat.le_of_ble_eq_true rfl) (Nat.le_of_ble_eq_true rfl) ?_
    show V E _ (wdX E.G a0 q3.2) 14 [(0, .ref (a0 0)), (1, .int p1)] [.int q3.1]
    have h := Option.some.inj h
    subst h
    exact V_iret C (by decide +kernel) rfl
  · refine V_pb C hn [(.aload_n 0, 1)] (pc' := 16) (ls' := [(0, .ref (a0 0)), (1, .int p1)]) (st' := [.ref (a0 0)]) (decB_ok (by decide +kernel)) rfl rfl ?_
    refine V_get C (v := .ref (a0 12)) (by decide +kernel) 0 2 fk_RX4_19 rfl rfl ?_
    refine V_pb C hn [(.aload_n 0, 1)] (pc' := 20) (ls' := [(0, .ref (a0 0)), (1, .int p1)]) (st' := [.ref (a0 0), .ref (a0 12)]) (decB_ok (by decide +kernel)) rfl rfl ?_
    refine V_get C (v := .ref (a0 4)) (by decide +kernel) 0 0 fk_RX4_12 rfl rfl ?_
    obtain ⟨q5, h6, h⟩ := bnd h
    refine V_callV (ws' := wdX E.G a0 (xs_trial S0 q5)) C (As := [.ref (a0 4)]) (rest := []) (by decide +kernel) ok_yX1_takeOver mk_RX4_170 (cfX1_takeOver (l := E.l) (G := E.G) (fun j => a0 (12 + j)) (fun j => a0 (4 + j)) h6) [12, 13, 14, 15, 4, 5, 6, 7] (q0 := 0) rfl rfl rfl rfl rfl rfl rfl rfl rfl (Nat.le_of_ble_eq_true rfl) (Nat.le_of_ble_eq_true rfl) (Nat.le_of_ble_eq_true rfl) ?_
    show V E _ (wdX E.G a0 (xs_trial S0 q5)) 26 [(0, .ref (a0 0)), (1, .int p1)] []
    refine V_pb C hn [(.iconst 0, 1), (.istore_n 2, 1)] (pc' := 28) (ls' := [(0, .ref (a0 0)), (1, .int p1), (2, .int (0 : Int32))]) (st' := []) (decB_ok (by decide +kernel)) rfl rfl ?_
    refine V_sub (ls' := [(0, .ref (a0 0)), (1, .int p1), (2, .int (0 : Int32))]) rfl ?_
    exact cfX4_lights_L28 C hn FU _ _ h
set_option maxRecDepth 100000 in
set_option maxHeartbeats 400000 in
theorem cfX4_areTwoMotes {l : Launch} {G : GG} (a0 : Nat → Nat) {p1 : Int32} {p2 : Int32} {S0 : XT} {out : Int32} (h : fX4_areTwoMotes p1 p2 S0 = some out) : Con l G 1 yX4_areTwoMotes cX4_areTwoMotes 3 (some .boolean) [.ref (a0 0), .int p1, .int p2] (wdX G a0 S0) (some (.int out)) (wdX G a0 S0) := by
  refine Con_of (by decide +kernel) (Nat.le_of_ble_eq_true rfl) (fun E hl hG hn C => ?_)
  subst hl
  subst hG
  have C : Ctx E cX4_areTwoMotes RX4 1 (some .boolean) := C
  show V E _ _ 0 [(0, .ref (a0 0)), (1, .int p1), (2, .int p2)] []
  unfold fX4_areTwoMotes at h
  refine V_pb C hn [(.aload_n 0, 1), (.iload_n 1, 1)] (pc' := 2) (ls' := [(0, .ref (a0 0)), (1, .int p1), (2, .int p2)]) (st' := [.int p1, .ref (a0 0)]) (decB_ok (by decide +kernel)) rfl rfl ?_
  obtain ⟨q1, h2, h⟩ := bnd h
  refine V_callV0 C (As := [.int p1]) (rest := []) (by decide +kernel) ok_yX4_isMote mk_RX4_100 (cfX4_isMote (l := E.l) (G := E.G) a0 h2) (q0 := 0) rfl rfl rfl rfl rfl rfl (Nat.le_of_ble_eq_true rfl) (Nat.le_of_ble_eq_true rfl) (Nat.le_of_ble_eq_true rfl) ?_
  show V E _ (wdX E.G a0 S0) 5 [(0, .ref (a0 0)), (1, .int p1), (2, .int p2)] [.int q1]
  refine V_if_eq C (off := 20) (tgt := 25) (by decide +kernel) (by decide) h (fun _ h => ?_) (fun _ h => ?_)
  · refine V_pb C hn [(.iconst 0, 1)] (pc' := 26) (ls' := [(0, .ref (a0 0)), (1, .int p1), (2, .int p2)]) (st' := [.int (0 : Int32)]) (decB_ok (by decide +kernel)) rfl rfl ?_
    have h := Option.some.inj h
    subst h
    exact V_iret C (v := (0 : Int32)) (by decide +kernel) nb0
  · refine V_pb C hn [(.aload_n 0, 1), (.iload_n 2, 1)] (pc' := 10) (ls' := [(0, .ref (a0 0)), (1, .int p1), (2, .int p2)]) (st' := [.int p2, .ref (a0 0)]) (decB_ok (by decide +kernel)) rfl rfl ?_
    obtain ⟨q3, h4, h⟩ := bnd h
    refine V_callV0 C (As := [.int p2]) (rest := []) (by decide +kernel) ok_yX4_isMote mk_RX4_100 (cfX4_isMote (l := E.l) (G := E.G) a0 h4) (q0 := 0) rfl rfl rfl rfl rfl rfl (Nat.le_of_ble_eq_true rfl) (Nat.le_of_ble_eq_true rfl) (Nat.le_of_ble_eq_true rfl) ?_
    show V E _ (wdX E.G a0 S0) 13 [(0, .ref (a0 0)), (1, .int p1), (2, .int p2)] [.int q3]
    refine V_if_eq C (off := 12) (tgt := 25) (by decide +kernel) (by decide) h (fun _ h => ?_) (fun _ h => ?_)
    · refine V_pb C hn [(.iconst 0, 1)] (pc' := 26) (ls' := [(0, .ref (a0 0)), (1, .int p1), (2, .int p2)]) (st' := [.int (0 : Int32)]) (decB_ok (by decide +kernel)) rfl rfl ?_
      have h := Option.some.inj h
      subst h
      exact V_iret C (v := (0 : Int32)) (by decide +kernel) nb0
    · refine V_pb C hn [(.iload_n 1, 1), (.iload_n 2, 1)] (pc' := 18) (ls' := [(0, .ref (a0 0)), (1, .int p1), (2, .int p2)]) (st' := [.int p2, .int p1]) (decB_ok (by decide +kernel)) rfl rfl ?_
      refine V_ic_eq C (off := 7) (tgt := 25) (by decide +kernel) (by decide) h (fun _ h => ?_) (fun _ h => ?_)
      · refine V_pb C hn [(.iconst 0, 1)] (pc' := 26) (ls' := [(0, .ref (a0 0)), (1, .int p1), (2, .int p2)]) (st' := [.int (0 : Int32)]) (decB_ok (by decide +kernel)) rfl rfl ?_
        have h := Option.some.inj h
        subst h
        exact V_iret C (v := (0 : Int32)) (by decide +kernel) nb0
      · refine V_pb C hn [(.iconst 1, 1)] (pc' := 22) (ls' := [(0, .ref (a0 0)), (1, .int p1), (2, .int p2)]) (st' := [.int (1 : Int32)]) (decB_ok (by decide +kernel)) rfl rfl ?_
        refine V_goto C (off := 4) (tgt := 26) (by decide +kernel) (by decide) ?_
        have h := Option.some.inj h
        subst h
        exact V_iret C (v := (1 : Int32)) (by decide +kernel) nb1
set_option maxRecDepth 100000 in
set_option maxHeartbeats 400000 in
theorem cfX4_meet_L29 {E : VE} (C : Ctx E cX4_meet RX4 4 (some .int)) (hn : E.nL = 4) {a0 : Nat → Nat} {p1 : Int32} {p2 : Int32} {out : Int32 × XT} : ∀ (n : Nat) (v3 : Int32) (S0 : XT), fX4_meet_L29 p1 p2 n v3 S0 = some out → V E (QR E (some (.int out.1)) (wdX E.G a0 out.2)) (wdX E.G a0 S0) 29 [(0, .ref (a0 0)), (1, .int p1), (2, .int p2), (3, .int v3)] [] := by
  intro n
  induction n with
  | zero =>
    intro v3 S0 h
    cases h
  | succ n ih =>
    intro v3 S0 h
    unfold fX4_meet_L29 at h
    refine V_pb C hn [(.iload_n 3, 1), (.bipush 24, 2)] (pc' := 32) (ls' := [(0, .ref (a0 0)), (1, .int p1), (2, .int p2), (3, .int v3)]) (st' := [.int (24 : Int32), .int v3]) (decB_ok (by decide +kernel)) rfl rfl ?_
    refine V_ic_gt C (off := 40) (tgt := 72) (by decide +kernel) (by decide) h (fun _ h => ?_) (fun _ h => ?_)
    · refine V_pb C hn [(.iconst (-1), 1)] (pc' := 73) (ls' := [(0, .ref (a0 0)), (1, .int p1), (2, .int p2), (3, .int v3)]) (st' := [.int (cI (-1))]) (decB_ok (by decide +kernel)) rfl rfl ?_
      have h := Option.some.inj h
      subst h
      exact V_iret C (by decide +kernel) rfl
    · refine V_pb C hn [(.aload_n 0, 1)] (pc' := 36) (ls' := [(0, .ref (a0 0)), (1, .int p1), (2, .int p2), (3, .int v3)]) (st' := [.ref (a0 0)]) (decB_ok (by decide +kernel)) rfl rfl ?_
      refine V_get C (v := .ref (a0 12)) (by decide +kernel) 0 2 fk_RX4_19 rfl rfl ?_
      refine V_get C (v := .ref (a0 15)) (by decide +kernel) 12 4 fk_RX4_122 rfl rfl ?_
      refine V_pb C hn [(.iload_n 1, 1)] (pc' := 43) (ls' := [(0, .ref (a0 0)), (1, .int p1), (2, .int p2), (3, .int v3)]) (st' := [.int p1, .ref (a0 15)]) (decB_ok (by decide +kernel)) rfl rfl ?_
      refine V_iald C (f := (h_cellOf (x_trial S0))) (by decide +kernel) 15 rfl h (fun h => ?_)
      refine V_pb C hn [(.aload_n 0, 1)] (pc' := 45) (ls' := [(0, .ref (a0 0)), (1, .int p1), (2, .int p2), (3, .int v3)]) (st' := [.ref (a0 0), .int ((h_cellOf (x_trial S0)) (ix p1))]) (decB_ok (by decide +kernel)) rfl rfl ?_
      refine V_get C (v := .ref (a0 12)) (by decide +kernel) 0 2 fk_RX4_19 rfl rfl ?_
      refine V_get C (v := .ref (a0 15)) (by decide +kernel) 12 4 fk_RX4_122 rfl rfl ?_
      refine V_pb C hn [(.iload_n 2, 1)] (pc' := 52) (ls' := [(0, .ref (a0 0)), (1, .int p1), (2, .int p2), (3, .int v3)]) (st' := [.int p2, .ref (a0 15), .int ((h_cellOf (x_trial S0)) (ix p1))]) (decB_ok (by decide +kernel)) rfl rfl ?_
      refine V_iald C (f := (h_cellOf (x_trial S0))) (by decide +kernel) 15 rfl h (fun h => ?_)
      refine V_ic_ne C (off := 5) (tgt := 58) (by decide +kernel) (by decide) h (fun _ h => ?_) (fun _ h => ?_)
      · refine V_pb C hn [(.iload_n 3, 1)] (pc' := 57) (ls' := [(0, .ref (a0 0)), (1, .int p1), (2, .int p2), (3, .int v3)]) (st' := [.int v3]) (decB_ok (by decide +kernel)) rfl rfl ?_
        have h := Option.some.inj h
        subst h
        exact V_iret C (by decide +kernel) rfl
      · refine V_pb C hn [(.aload_n 0, 1)] (pc' := 59) (ls' := [(0, .ref (a0 0)), (1, .int p1), (2, .int p2), (3, .int v3)]) (st' := [.ref (a0 0)]) (decB_ok (by decide +kernel)) rfl rfl ?_
        refine V_get C (v := .ref (a0 12)) (by decide +kernel) 0 2 fk_RX4_19 rfl rfl ?_
        refine V_pb C hn [(.iconst 1, 1)] (pc' := 63) (ls' := [(0, .ref (a0 0)), (1, .int p1), (2, .int p2), (3, .int v3)]) (st' := [.int (1 : Int32), .ref (a0 12)]) (decB_ok (by decide +kernel)) rfl rfl ?_
        obtain ⟨q7, h8, h⟩ := bnd h
        refine V_callV (ws' := wdX E.G a0 (xs_trial S0 q7)) C (As := [.int (1 : Int32)]) (rest := []) (by decide +kernel) ok_yX1_goOn mk_RX4_229 (cfX1_goOn (l := E.l) (G := E.G) (fun j => a0 (12 + j)) h8) [12, 13, 14, 15] (q0 := 0) rfl rfl rfl rfl rfl rfl rfl rfl rfl (Nat.le_of_ble_eq_true rfl) (Nat.le_of_ble_eq_true rfl) (Nat.le_of_ble_eq_true rfl) ?_
        show V E _ (wdX E.G a0 (xs_trial S0 q7)) 66 [(0, .ref (a0 0)), (1, .int p1), (2, .int p2), (3, .int v3)] []
        refine V_pb C hn [(.iinc 3 1, 3)] (pc' := 69) (ls' := [(0, .ref (a0 0)), (1, .int p1), (2, .int p2), (3, .int (v3 + (1 : Int32)))]) (st' := []) (decB_ok (by decide +kernel)) rfl rfl ?_
        refine V_goto C (off := -40) (tgt := 29) (by decide +kernel) (by decide) ?_
        refine V_sub (ls' := [(0, .ref (a0 0)), (1, .int p1), (2, .int p2), (3, .int (v3 + (1 : Int32)))]) rfl ?_
        exact ih _ _ h
set_option maxRecDepth 100000 in
set_option maxHeartbeats 400000 in
theorem cfX4_meet {l : Launch} {G : GG} (a0 : Nat → Nat) {p1 : Int32} {p2 : Int32} {S0 : XT} {out : Int32 × XT} (h : fX4_meet p1 p2 S0 = some out) : Con l G 4 yX4_meet cX4_meet 4 (some .int) [.ref (a0 0), .int p1, .int p2] (wdX G a0 S0) (some (.int out.1)) (wdX G a0 out.2) := by
  refine Con_of (by decide +kernel) (Nat.le_of_ble_eq_true rfl) (fun E hl hG hn C => ?_)
  subst hl
  subst hG
  have C : Ctx E cX4_meet RX4 4 (some .int) := C
  show V E _ _ 0 [(0, .ref (a0 0)), (1, .int p1), (2, .int p2)] []
  unfold fX4_meet at h
  refine V_pb C hn [(.aload_n 0, 1), (.iload_n 1, 1), (.iload_n 2, 1)] (pc' := 3) (ls' := [(0, .ref (a0 0)), (1, .int p1), (2, .int p2)]) (st' := [.int p2, .int p1, .ref (a0 0)]) (decB_ok (by decide +kernel)) rfl rfl ?_
  obtain ⟨q1, h2, h⟩ := bnd h
  refine V_callV0 C (As := [.int p1, .int p2]) (rest := []) (by decide +kernel) ok_yX4_areTwoMotes mk_RX4_232 (cfX4_areTwoMotes (l := E.l) (G := E.G) a0 h2) (q0 := 0) rfl rfl rfl rfl rfl rfl (Nat.le_of_ble_eq_true rfl) (Nat.le_of_ble_eq_true rfl) (Nat.le_of_ble_eq_true rfl) ?_
  show V E _ (wdX E.G a0 S0) 6 [(0, .ref (a0 0)), (1, .int p1), (2, .int p2)] [.int q1]
  refine V_if_ne C (off := 10) (tgt := 16) (by decide +kernel) (by decide) h (fun _ h => ?_) (fun _ h => ?_)
  · refine V_pb C hn [(.aload_n 0, 1), (.bipush (-2), 2)] (pc' := 12) (ls' := [(0, .ref (a0 0)), (1, .int p1), (2, .int p2)]) (st' := [.int (cI (-2)), .ref (a0 0)]) (decB_ok (by decide +kernel)) rfl rfl ?_
    obtain ⟨q3, h4, h⟩ := bnd h
    refine V_callV0 C (As := [.int (cI (-2))]) (rest := []) (by decide +kernel) ok_yX4_refuse mk_RX4_57 (cfX4_refuse (l := E.l) (G := E.G) a0 h4) (q0 := 0) rfl rfl rfl rfl rfl rfl (Nat.le_of_ble_eq_true rfl) (Nat.le_of_ble_eq_true rfl) (Nat.le_of_ble_eq_true rfl) ?_
    show V E _ (wdX E.G a0 q3.2) 15 [(0, .ref (a0 0)), (1, .int p1), (2, .int p2)] [.int q3.1]
    have h := Option.some.inj h
    subst h
    exact V_iret C (by decide +kernel) rfl
  · refine V_pb C hn [(.aload_n 0, 1)] (pc' := 17) (ls' := [(0, .ref (a0 0)), (1, .int p1), (2, .int p2)]) (st' := [.ref (a0 0)]) (decB_ok (by decide +kernel)) rfl rfl ?_
    refine V_get C (v := .ref (a0 12)) (by decide +kernel) 0 2 fk_RX4_19 rfl rfl ?_
    refine V_pb C hn [(.aload_n 0, 1)] (pc' := 21) (ls' := [(0, .ref (a0 0)), (1, .int p1), (2, .int p2)]) (st' := [.ref (a0 0), .ref (a0 12)]) (decB_ok (by decide +kernel)) rfl rfl ?_
    refine V_get C (v := .ref (a0 4)) (by decide +kernel) 0 0 fk_RX4_12 rfl rfl ?_
    obtain ⟨q5, h6, h⟩ := bnd h
    refine V_callV (ws' := wdX E.G a0 (xs_trial S0 q5)) C (As := [.ref (a0 4)]) (rest := []) (by decide +kernel) ok_yX1_takeOver mk_RX4_170 (cfX1_takeOver (l := E.l) (G := E.G) (fun j => a0 (12 + j)) (fun j => a0 (4 + j)) h6) [12, 13, 14, 15, 4, 5, 6, 7] (q0 := 0) rfl rfl rfl rfl rfl rfl rfl rfl rfl (Nat.le_of_ble_eq_true rfl) (Nat.le_of_ble_eq_true rfl) (Nat.le_of_ble_eq_true rfl) ?_
    show V E _ (wdX E.G a0 (xs_trial S0 q5)) 27 [(0, .ref (a0 0)), (1, .int p1), (2, .int p2)] []
    refine V_pb C hn [(.iconst 0, 1), (.istore_n 3, 1)] (pc' := 29) (ls' := [(0, .ref (a0 0)), (1, .int p1), (2, .int p2), (3, .int (0 : Int32))]) (st' := []) (decB_ok (by decide +kernel)) rfl rfl ?_
    refine V_sub (ls' := [(0, .ref (a0 0)), (1, .int p1), (2, .int p2), (3, .int (0 : Int32))]) rfl ?_
    exact cfX4_meet_L29 C hn FU _ _ h
set_option maxRecDepth 100000 in
set_option maxHeartbeats 400000 in
theorem cfX4_together_j83 {E : VE} (C : Ctx E cX4_together RX4 4 (some .int)) (hn : E.nL = 5) {a0 : Nat → Nat} {p1 : Int32} {p2 : Int32} {v4 : Int32} {s0 : Int32} {s1 : Int32} {S0 : XT} {out : Int32 × XT} {k32 : Int32 → Int32 → XT → Option (Int32 × XT)} (hk32 : ∀ (v3 : Int32) (v4 : Int32) (S0 : XT), k32 v3 v4 S0 = some out → V E (QR E (some (.int out.1)) (wdX E.G a0 out.2)) (wdX E.G a0 S0) 32 [(0, .ref (a0 0)), (1, .int p1), (2, .int p2), (3, .int v3), (4, .int v4)] []) (h : fX4_together_j83 k32 p1 p2 v4 s0 s1 S0 = some out) : V E (QR E (some (.int out.1)) (wdX E.G a0 out.2)) (wdX E.G a0 S0) 83 [(0, .ref (a0 0)), (1, .int p1), (2, .int p2), (4, .int v4)] [.int s0, .int s1] := by
  unfold fX4_together_j83 at h
  obtain ⟨q9, h10, h⟩ := bnd h
  refine V_callSp C (As := [.int s0]) (rest := [.int s1]) (by decide +kernel) ok_yX4_bit mk_RX4_184 (cfX4_bit (l := E.l) (G := E.G) h10) [] rfl rfl rfl rfl (Nat.le_of_ble_eq_true rfl) (Nat.le_of_ble_eq_true rfl) (Nat.le_of_ble_eq_true rfl) ?_
  show V E _ (wdX E.G a0 S0) 86 [(0, .ref (a0 0)), (1, .int p1), (2, .int p2), (4, .int v4)] [.int q9, .int s1]
  refine V_pb C hn [(.iadd, 1), (.istore_n 3, 1), (.aload_n 0, 1)] (pc' := 89) (ls' := [(0, .ref (a0 0)), (1, .int p1), (2, .int p2), (3, .int (s1 + q9)), (4, .int v4)]) (st' := [.ref (a0 0)]) (decB_ok (by decide +kernel)) rfl rfl ?_
  refine V_get C (v := .ref (a0 12)) (by decide +kernel) 0 2 fk_RX4_19 rfl rfl ?_
  refine V_pb C hn [(.iconst 1, 1)] (pc' := 93) (ls' := [(0, .ref (a0 0)), (1, .int p1), (2, .int p2), (3, .int (s1 + q9)), (4, .int v4)]) (st' := [.int (1 : Int32), .ref (a0 12)]) (decB_ok (by decide +kernel)) rfl rfl ?_
  obtain ⟨q11, h12, h⟩ := bnd h
  refine V_callV (ws' := wdX E.G a0 (xs_trial S0 q11)) C (As := [.int (1 : Int32)]) (rest := []) (by decide +kernel) ok_yX1_goOn mk_RX4_229 (cfX1_goOn (l := E.l) (G := E.G) (fun j => a0 (12 + j)) h12) [12, 13, 14, 15] (q0 := 0) rfl rfl rfl rfl rfl rfl rfl rfl rfl (Nat.le_of_ble_eq_true rfl) (Nat.le_of_ble_eq_true rfl) (Nat.le_of_ble_eq_true rfl) ?_
  show V E _ (wdX E.G a0 (xs_trial S0 q11)) 96 [(0, .ref (a0 0)), (1, .int p1), (2, .int p2), (3, .int (s1 + q9)), (4, .int v4)] []
  refine V_pb C hn [(.iinc 4 1, 3)] (pc' := 99) (ls' := [(0, .ref (a0 0)), (1, .int p1), (2, .int p2), (3, .int (s1 + q9)), (4, .int (v4 + (1 : Int32)))]) (st' := []) (decB_ok (by decide +kernel)) rfl rfl ?_
  refine V_goto C (off := -67) (tgt := 32) (by decide +kernel) (by decide) ?_
  refine V_sub (ls' := [(0, .ref (a0 0)), (1, .int p1), (2, .int p2), (3, .int (s1 + q9)), (4, .int (v4 + (1 : Int32)))]) rfl ?_
  exact hk32 _ _ _ h
set_option maxRecDepth 100000 in
set_option maxHeartbeats 400000 in
theorem cfX4_together_j82 {E : VE} (C : Ctx E cX4_together RX4 4 (some .int)) (hn : E.nL = 5) {a0 : Nat → Nat} {p1 : Int32} {p2 : Int32} {v4 : Int32} {s0 : Int32} {S0 : XT} {out : Int32 × XT} {k32 : Int32 → Int32 → XT → Option (Int32 × XT)} (hk32 : ∀ (v3 : Int32) (v4 : Int32) (S0 : XT), k32 v3 v4 S0 = some out → V E (QR E (some (.int out.1)) (wdX E.G a0 out.2)) (wdX E.G a0 S0) 32 [(0, .ref (a0 0)), (1, .int p1), (2, .int p2), (3, .int v3), (4, .int v4)] []) (h : fX4_together_j82 k32 p1 p2 v4 s0 S0 = some out) : V E (QR E (some (.int out.1)) (wdX E.G a0 out.2)) (wdX E.G a0 S0) 82 [(0, .ref (a0 0)), (1, .int p1), (2, .int p2), (4, .int v4)] [.int s0] := by
  unfold fX4_together_j82 at h
  refine V_pb C hn [(.iconst 0, 1)] (pc' := 83) (ls' := [(0, .ref (a0 0)), (1, .int p1), (2, .int p2), (4, .int v4)]) (st' := [.int (0 : Int32), .int s0]) (decB_ok (by decide +kernel)) rfl rfl ?_
  refine V_sub (ls' := [(0, .ref (a0 0)), (1, .int p1), (2, .int p2), (4, .int v4)]) rfl ?_
  exact cfX4_together_j83 C hn (k32 := k32) (hk32) h
set_option maxRecDepth 100000 in
set_option maxHeartbeats 400000 in
theorem cfX4_together_L32 {E : VE} (C : Ctx E cX4_together RX4 4 (some .int)) (hn : E.nL = 5) {a0 : Nat → Nat} {p1 : Int32} {p2 : Int32} {out : Int32 × XT} : ∀ (n : Nat) (v3 : Int32) (v4 : Int32) (S0 : XT), fX4_together_L32 p1 p2 n v3 v4 S0 = some out → V E (QR E (some (.int out.1)) (wdX E.G a0 out.2)) (wdX E.G a0 S0) 32 [(0, .ref (a0 0)), (1, .int p1), (2, .int p2), (3, .int v3), (4, .int v4)] [] := by
  intro n
  induction n with
  | zero =>
    intro v3 v4 S0 h
    cases h
  | succ n ih =>
    intro v3 v4 S0 h
    unfold fX4_together_L32 at h
    refine V_pb C hn [(.iload 4, 2), (.bipush 24, 2)] (pc' := 36) (ls' := [(0, .ref (a0 0)), (1, .int p1), (2, .int p2), (3, .int v3), (4, .int v4)]) (st' := [.int (24 : Int32), .int v4]) (decB_ok (by decide +kernel)) rfl rfl ?_
    refine V_ic_gt C (off := 66) (tgt := 102) (by decide +kernel) (by decide) h (fun _ h => ?_) (fun _ h => ?_)
    · refine V_pb C hn [(.iload_n 3, 1)] (pc' := 103) (ls' := [(0, .ref (a0 0)), (1, .int p1), (2, .int p2), (3, .int v3), (4, .int v4)]) (st' := [.int v3]) (decB_ok (by decide +kernel)) rfl rfl ?_
      have h := Option.some.inj h
      subst h
      exact V_iret C (by decide +kernel) rfl
    · refine V_pb C hn [(.iload_n 3, 1), (.aload_n 0, 1)] (pc' := 41) (ls' := [(0, .ref (a0 0)), (1, .int p1), (2, .int p2), (3, .int v3), (4, .int v4)]) (st' := [.ref (a0 0), .int v3]) (decB_ok (by decide +kernel)) rfl rfl ?_
      refine V_get C (v := .ref (a0 12)) (by decide +kernel) 0 2 fk_RX4_19 rfl rfl ?_
      refine V_pb C hn [(.aload_n 0, 1)] (pc' := 45) (ls' := [(0, .ref (a0 0)), (1, .int p1), (2, .int p2), (3, .int v3), (4, .int v4)]) (st' := [.ref (a0 0), .ref (a0 12), .int v3]) (decB_ok (by decide +kernel)) rfl rfl ?_
      refine V_get C (v := .ref (a0 12)) (by decide +kernel) 0 2 fk_RX4_19 rfl rfl ?_
      refine V_get C (v := .ref (a0 15)) (by decide +kernel) 12 4 fk_RX4_122 rfl rfl ?_
      refine V_pb C hn [(.iload_n 1, 1)] (pc' := 52) (ls' := [(0, .ref (a0 0)), (1, .int p1), (2, .int p2), (3, .int v3), (4, .int v4)]) (st' := [.int p1, .ref (a0 15), .ref (a0 12), .int v3]) (decB_ok (by decide +kernel)) rfl rfl ?_
      refine V_iald C (f := (h_cellOf (x_trial S0))) (by decide +kernel) 15 rfl h (fun h => ?_)
      obtain ⟨q7, h8, h⟩ := bnd h
      refine V_callVp C (As := [.int ((h_cellOf (x_trial S0)) (ix p1))]) (rest := [.int v3]) (by decide +kernel) ok_yX1_isLit mk_RX4_181 (cfX1_isLit (l := E.l) (G := E.G) (fun j => a0 (12 + j)) h8) [12, 13, 14, 15] (q0 := 0) rfl rfl rfl rfl rfl rfl rfl (Nat.le_of_ble_eq_true rfl) (Nat.le_of_ble_eq_true rfl) (Nat.le_of_ble_eq_true rfl) ?_
      show V E _ (wdX E.G a0 S0) 56 [(0, .ref (a0 0)), (1, .int p1), (2, .int p2), (3, .int v3), (4, .int v4)] [.int q7, .int v3]
      refine V_if_eq C (off := 26) (tgt := 82) (by decide +kernel) (by decide) h (fun _ h => ?_) (fun _ h => ?_)
      · refine V_sub (ls' := [(0, .ref (a0 0)), (1, .int p1), (2, .int p2), (4, .int v4)]) rfl ?_
        exact cfX4_together_j82 C hn (k32 := (fun v3 v4 S0 => fX4_together_L32 p1 p2 n v3 v4 S0)) (fun v3 v4 S0 h => ih v3 v4 S0 h) h
      · refine V_pb C hn [(.aload_n 0, 1)] (pc' := 60) (ls' := [(0, .ref (a0 0)), (1, .int p1), (2, .int p2), (3, .int v3), (4, .int v4)]) (st' := [.ref (a0 0), .int v3]) (decB_ok (by decide +kernel)) rfl rfl ?_
        refine V_get C (v := .ref (a0 12)) (by decide +kernel) 0 2 fk_RX4_19 rfl rfl ?_
        refine V_pb C hn [(.aload_n 0, 1)] (pc' := 64) (ls' := [(0, .ref (a0 0)), (1, .int p1), (2, .int p2), (3, .int v3), (4, .int v4)]) (st' := [.ref (a0 0), .ref (a0 12), .int v3]) (decB_ok (by decide +kernel)) rfl rfl ?_
        refine V_get C (v := .ref (a0 12)) (by decide +kernel) 0 2 fk_RX4_19 rfl rfl ?_
        refine V_get C (v := .ref (a0 15)) (by decide +kernel) 12 4 fk_RX4_122 rfl rfl ?_
        refine V_pb C hn [(.iload_n 2, 1)] (pc' := 71) (ls' := [(0, .ref (a0 0)), (1, .int p1), (2, .int p2), (3, .int v3), (4, .int v4)]) (st' := [.int p2, .ref (a0 15), .ref (a0 12), .int v3]) (decB_ok (by decide +kernel)) rfl rfl ?_
        refine V_iald C (f := (h_cellOf (x_trial S0))) (by decide +kernel) 15 rfl h (fun h => ?_)
        obtain ⟨q13, h14, h⟩ := bnd h
        refine V_callVp C (As := [.int ((h_cellOf (x_trial S0)) (ix p2))]) (rest := [.int v3]) (by decide +kernel) ok_yX1_isLit mk_RX4_181 (cfX1_isLit (l := E.l) (G := E.G) (fun j => a0 (12 + j)) h14) [12, 13, 14, 15] (q0 := 0) rfl rfl rfl rfl rfl rfl rfl (Nat.le_of_ble_eq_true rfl) (Nat.le_of_ble_eq_true rfl) (Nat.le_of_ble_eq_true rfl) ?_
        show V E _ (wdX E.G a0 S0) 75 [(0, .ref (a0 0)), (1, .int p1), (2, .int p2), (3, .int v3), (4, .int v4)] [.int q13, .int v3]
        refine V_if_eq C (off := 7) (tgt := 82) (by decide +kernel) (by decide) h (fun _ h => ?_) (fun _ h => ?_)
        · refine V_sub (ls' := [(0, .ref (a0 0)), (1, .int p1), (2, .int p2), (4, .int v4)]) rfl ?_
          exact cfX4_together_j82 C hn (k32 := (fun v3 v4 S0 => fX4_together_L32 p1 p2 n v3 v4 S0)) (fun v3 v4 S0 h => ih v3 v4 S0 h) h
        · refine V_pb C hn [(.iconst 1, 1)] (pc' := 79) (ls' := [(0, .ref (a0 0)), (1, .int p1), (2, .int p2), (3, .int v3), (4, .int v4)]) (st' := [.int (1 : Int32), .int v3]) (decB_ok (by decide +kernel)) rfl rfl ?_
          refine V_goto C (off := 4) (tgt := 83) (by decide +kernel) (by decide) ?_
          refine V_sub (ls' := [(0, .ref (a0 0)), (1, .int p1), (2, .int p2), (4, .int v4)]) rfl ?_
          exact cfX4_together_j83 C hn (k32 := (fun v3 v4 S0 => fX4_together_L32 p1 p2 n v3 v4 S0)) (fun v3 v4 S0 h => ih v3 v4 S0 h) h
set_option maxRecDepth 100000 in
set_option maxHeartbeats 400000 in
theorem cfX4_together {l : Launch} {G : GG} (a0 : Nat → Nat) {p1 : Int32} {p2 : Int32} {S0 : XT} {out : Int32 × XT} (h : fX4_together p1 p2 S0 = some out) : Con l G 4 yX4_together cX4_together 5 (some .int) [.ref (a0 0), .int p1, .int p2] (wdX G a0 S0) (some (.int out.1)) (wdX G a0 out.2) := by
  refine Con_of (by decide +kernel) (Nat.le_of_ble_eq_true rfl) (fun E hl hG hn C => ?_)
  subst hl
  subst hG
  have C : Ctx E cX4_together RX4 4 (some .int) := C
  show V E _ _ 0 [(0, .ref (a0 0)), (1, .int p1), (2, .int p2)] []
  unfold fX4_together at h
  refine V_pb C hn [(.aload_n 0, 1), (.iload_n 1, 1), (.iload_n 2, 1)] (pc' := 3) (ls' := [(0, .ref (a0 0)), (1, .int p1), (2, .int p2)]) (st' := [.int p2, .int p1, .ref (a0 0)]) (decB_ok (by decide +kernel)) rfl rfl ?_
  obtain ⟨q1, h2, h⟩ := bnd h
  refine V_callV0 C (As := [.int p1, .int p2]) (rest := []) (by decide +kernel) ok_yX4_areTwoMotes mk_RX4_232 (cfX4_areTwoMotes (l := E.l) (G := E.G) a0 h2) (q0 := 0) rfl rfl rfl rfl rfl rfl (Nat.le_of_ble_eq_true rfl) (Nat.le_of_ble_eq_true rfl) (Nat.le_of_ble_eq_true rfl) ?_
  show V E _ (wdX E.G a0 S0) 6 [(0, .ref (a0 0)), (1, .int p1), (2, .int p2)] [.int q1]
  refine V_if_ne C (off := 10) (tgt := 16) (by decide +kernel) (by decide) h (fun _ h => ?_) (fun _ h => ?_)
  · refine V_pb C hn [(.aload_n 0, 1), (.bipush (-2), 2)] (pc' := 12) (ls' := [(0, .ref (a0 0)), (1, .int p1), (2, .int p2)]) (st' := [.int (cI (-2)), .ref (a0 0)]) (decB_ok (by decide +kernel)) rfl rfl ?_
    obtain ⟨q3, h4, h⟩ := bnd h
    refine V_callV0 C (As := [.int (cI (-2))]) (rest := []) (by decide +kernel) ok_yX4_refuse mk_RX4_57 (cfX4_refuse (l := E.l) (G := E.G) a0 h4) (q0 := 0) rfl rfl rfl rfl rfl rfl (Nat.le_of_ble_eq_true rfl) (Nat.le_of_ble_eq_true rfl) (Nat.le_of_ble_eq_true rfl) ?_
    show V E _ (wdX E.G a0 q3.2) 15 [(0, .ref (a0 0)), (1, .int p1), (2, .int p2)] [.int q3.1]
    have h := Option.some.inj h
    subst h
    exact V_iret C (by decide +kernel) rfl
  · refine V_pb C hn [(.iconst 0, 1), (.istore_n 3, 1), (.aload_n 0, 1)] (pc' := 19) (ls' := [(0, .ref (a0 0)), (1, .int p1), (2, .int p2), (3, .int (0 : Int32))]) (st' := [.ref (a0 0)]) (decB_ok (by decide +kernel)) rfl rfl ?_
    refine V_get C (v := .ref (a0 12)) (by decide +kernel) 0 2 fk_RX4_19 rfl rfl ?_
    refine V_pb C hn [(.aload_n 0, 1)] (pc' := 23) (ls' := [(0, .ref (a0 0)), (1, .int p1), (2, .int p2), (3, .int (0 : Int32))]) (st' := [.ref (a0 0), .ref (a0 12)]) (decB_ok (by decide +kernel)) rfl rfl ?_
    refine V_get C (v := .ref (a0 4)) (by decide +kernel) 0 0 fk_RX4_12 rfl rfl ?_
    obtain ⟨q5, h6, h⟩ := bnd h
    refine V_callV (ws' := wdX E.G a0 (xs_trial S0 q5)) C (As := [.ref (a0 4)]) (rest := []) (by decide +kernel) ok_yX1_takeOver mk_RX4_170 (cfX1_takeOver (l := E.l) (G := E.G) (fun j => a0 (12 + j)) (fun j => a0 (4 + j)) h6) [12, 13, 14, 15, 4, 5, 6, 7] (q0 := 0) rfl rfl rfl rfl rfl rfl rfl rfl rfl (Nat.le_of_ble_eq_true rfl) (Nat.le_of_ble_eq_true rfl) (Nat.le_of_ble_eq_true rfl) ?_
    show V E _ (wdX E.G a0 (xs_trial S0 q5)) 29 [(0, .ref (a0 0)), (1, .int p1), (2, .int p2), (3, .int (0 : Int32))] []
    refine V_pb C hn [(.iconst 0, 1), (.istore 4, 2)] (pc' := 32) (ls' := [(0, .ref (a0 0)), (1, .int p1), (2, .int p2), (3, .int (0 : Int32)), (4, .int (0 : Int32))]) (st' := []) (decB_ok (by decide +kernel)) rfl rfl ?_
    refine V_sub (ls' := [(0, .ref (a0 0)), (1, .int p1), (2, .int p2), (3, .int (0 : Int32)), (4, .int (0 : Int32))]) rfl ?_
    exact cfX4_together_L32 C hn FU _ _ _ h
set_option maxRecDepth 100000 in
set_option maxHeartbeats 400000 in
theorem cfX4_runs_L29 {E : VE} (C : Ctx E cX4_runs RX4 4 (some .int)) (hn : E.nL = 4) {a0 : Nat → Nat} {p1 : Int32} {out : Int32 × XT} : ∀ (n : Nat) (v2 : Int32) (v3 : Int32) (S0 : XT), fX4_runs_L29 p1 n v2 v3 S0 = some out → V E (QR E (some (.int out.1)) (wdX E.G a0 out.2)) (wdX E.G a0 S0) 29 [(0, .ref (a0 0)), (1, .int p1), (2, .int v2), (3, .int v3)] [] := by
  intro n
  induction n with
  | zero =>
    intro v2 v3 S0 h
    cases h
  | succ n ih =>
    intro v2 v3 S0 h
    unfold fX4_runs_L29 at h
    refine V_pb C hn [(.iload_n 3, 1), (.iload_n 1, 1)] (pc' := 31) (ls' := [(0, .ref (a0 0)), (1, .int p1), (2, .int v2), (3, .int v3)]) (st' := [.int p1, .int v3]) (decB_ok (by decide +kernel)) rfl rfl ?_
    refine V_ic_gt C (off := 30) (tgt := 61) (by decide +kernel) (by decide) h (fun _ h => ?_) (fun _ h => ?_)
    · refine V_pb C hn [(.iload_n 2, 1)] (pc' := 62) (ls' := [(0, .ref (a0 0)), (1, .int p1), (2, .int v2), (3, .int v3)]) (st' := [.int v2]) (decB_ok (by decide +kernel)) rfl rfl ?_
      have h := Option.some.inj h
      subst h
      exact V_iret C (by decide +kernel) rfl
    · refine V_pb C hn [(.iload_n 2, 1), (.aload_n 0, 1)] (pc' := 36) (ls' := [(0, .ref (a0 0)), (1, .int p1), (2, .int v2), (3, .int v3)]) (st' := [.ref (a0 0), .int v2]) (decB_ok (by decide +kernel)) rfl rfl ?_
      refine V_get C (v := .ref (a0 12)) (by decide +kernel) 0 2 fk_RX4_19 rfl rfl ?_
      obtain ⟨q7, h8, h⟩ := bnd h
      refine V_callVp C (As := []) (rest := [.int v2]) (by decide +kernel) ok_yX1_carries mk_RX4_208 (cfX1_carries (l := E.l) (G := E.G) (fun j => a0 (12 + j)) h8) [12, 13, 14, 15] (q0 := 0) rfl rfl rfl rfl rfl rfl rfl (Nat.le_of_ble_eq_true rfl) (Nat.le_of_ble_eq_true rfl) (Nat.le_of_ble_eq_true rfl) ?_
      show V E _ (wdX E.G a0 S0) 42 [(0, .ref (a0 0)), (1, .int p1), (2, .int v2), (3, .int v3)] [.int q7, .int v2]
      obtain ⟨q9, h10, h⟩ := bnd h
      refine V_callSp C (As := [.int q7]) (rest := [.int v2]) (by decide +kernel) ok_yX4_bit mk_RX4_184 (cfX4_bit (l := E.l) (G := E.G) h10) [] rfl rfl rfl rfl (Nat.le_of_ble_eq_true rfl) (Nat.le_of_ble_eq_true rfl) (Nat.le_of_ble_eq_true rfl) ?_
      show V E _ (wdX E.G a0 S0) 45 [(0, .ref (a0 0)), (1, .int p1), (2, .int v2), (3, .int v3)] [.int q9, .int v2]
      refine V_pb C hn [(.iadd, 1), (.istore_n 2, 1), (.aload_n 0, 1)] (pc' := 48) (ls' := [(0, .ref (a0 0)), (1, .int p1), (2, .int (v2 + q9)), (3, .int v3)]) (st' := [.ref (a0 0)]) (decB_ok (by decide +kernel)) rfl rfl ?_
      refine V_get C (v := .ref (a0 12)) (by decide +kernel) 0 2 fk_RX4_19 rfl rfl ?_
      refine V_pb C hn [(.iconst 1, 1)] (pc' := 52) (ls' := [(0, .ref (a0 0)), (1, .int p1), (2, .int (v2 + q9)), (3, .int v3)]) (st' := [.int (1 : Int32), .ref (a0 12)]) (decB_ok (by decide +kernel)) rfl rfl ?_
      obtain ⟨q11, h12, h⟩ := bnd h
      refine V_callV (ws' := wdX E.G a0 (xs_trial S0 q11)) C (As := [.int (1 : Int32)]) (rest := []) (by decide +kernel) ok_yX1_goOn mk_RX4_229 (cfX1_goOn (l := E.l) (G := E.G) (fun j => a0 (12 + j)) h12) [12, 13, 14, 15] (q0 := 0) rfl rfl rfl rfl rfl rfl rfl rfl rfl (Nat.le_of_ble_eq_true rfl) (Nat.le_of_ble_eq_true rfl) (Nat.le_of_ble_eq_true rfl) ?_
      show V E _ (wdX E.G a0 (xs_trial S0 q11)) 55 [(0, .ref (a0 0)), (1, .int p1), (2, .int (v2 + q9)), (3, .int v3)] []
      refine V_pb C hn [(.iinc 3 1, 3)] (pc' := 58) (ls' := [(0, .ref (a0 0)), (1, .int p1), (2, .int (v2 + q9)), (3, .int (v3 + (1 : Int32)))]) (st' := []) (decB_ok (by decide +kernel)) rfl rfl ?_
      refine V_goto C (off := -29) (tgt := 29) (by decide +kernel) (by decide) ?_
      refine V_sub (ls' := [(0, .ref (a0 0)), (1, .int p1), (2, .int (v2 + q9)), (3, .int (v3 + (1 : Int32)))]) rfl ?_
      exact ih _ _ _ h
set_option maxRecDepth 100000 in
set_option maxHeartbeats 400000 in
theorem cfX4_runs {l : Launch} {G : GG} (a0 : Nat → Nat) {p1 : Int32} {S0 : XT} {out : Int32 × XT} (h : fX4_runs p1 S0 = some out) : Con l G 4 yX4_runs cX4_runs 4 (some .int) [.ref (a0 0), .int p1] (wdX G a0 S0) (some (.int out.1)) (wdX G a0 out.2) := by
  refine Con_of (by decide +kernel) (Nat.le_of_ble_eq_true rfl) (fun E hl hG hn C => ?_)
  subst hl
  subst hG
  have C : Ctx E cX4_runs RX4 4 (some .int) := C
  show V E _ _ 0 [(0, .ref (a0 0)), (1, .int p1)] []
  unfold fX4_runs at h
  refine V_pb C hn [(.iload_n 1, 1)] (pc' := 1) (ls' := [(0, .ref (a0 0)), (1, .int p1)]) (st' := [.int p1]) (decB_ok (by decide +kernel)) rfl rfl ?_
  obtain ⟨q1, h2, h⟩ := bnd h
  refine V_callSp C (As := [.int p1]) (rest := []) (by decide +kernel) ok_yX4_isTime mk_RX4_194 (cfX4_isTime (l := E.l) (G := E.G) h2) [] rfl rfl rfl rfl (Nat.le_of_ble_eq_true rfl) (Nat.le_of_ble_eq_true rfl) (Nat.le_of_ble_eq_true rfl) ?_
  show V E _ (wdX E.G a0 S0) 4 [(0, .ref (a0 0)), (1, .int p1)] [.int q1]
  refine V_if_ne C (off := 10) (tgt := 14) (by decide +kernel) (by decide) h (fun _ h => ?_) (fun _ h => ?_)
  · refine V_pb C hn [(.aload_n 0, 1), (.bipush (-2), 2)] (pc' := 10) (ls' := [(0, .ref (a0 0)), (1, .int p1)]) (st' := [.int (cI (-2)), .ref (a0 0)]) (decB_ok (by decide +kernel)) rfl rfl ?_
    obtain ⟨q3, h4, h⟩ := bnd h
    refine V_callV0 C (As := [.int (cI (-2))]) (rest := []) (by decide +kernel) ok_yX4_refuse mk_RX4_57 (cfX4_refuse (l := E.l) (G := E.G) a0 h4) (q0 := 0) rfl rfl rfl rfl rfl rfl (Nat.le_of_ble_eq_true rfl) (Nat.le_of_ble_eq_true rfl) (Nat.le_of_ble_eq_true rfl) ?_
    show V E _ (wdX E.G a0 q3.2) 13 [(0, .ref (a0 0)), (1, .int p1)] [.int q3.1]
    have h := Option.some.inj h
    subst h
    exact V_iret C (by decide +kernel) rfl
  · refine V_pb C hn [(.iconst 0, 1), (.istore_n 2, 1), (.aload_n 0, 1)] (pc' := 17) (ls' := [(0, .ref (a0 0)), (1, .int p1), (2, .int (0 : Int32))]) (st' := [.ref (a0 0)]) (decB_ok (by decide +kernel)) rfl rfl ?_
    refine V_get C (v := .ref (a0 12)) (by decide +kernel) 0 2 fk_RX4_19 rfl rfl ?_
    refine V_pb C hn [(.aload_n 0, 1)] (pc' := 21) (ls' := [(0, .ref (a0 0)), (1, .int p1), (2, .int (0 : Int32))]) (st' := [.ref (a0 0), .ref (a0 12)]) (decB_ok (by decide +kernel)) rfl rfl ?_
    refine V_get C (v := .ref (a0 4)) (by decide +kernel) 0 0 fk_RX4_12 rfl rfl ?_
    obtain ⟨q5, h6, h⟩ := bnd h
    refine V_callV (ws' := wdX E.G a0 (xs_trial S0 q5)) C (As := [.ref (a0 4)]) (rest := []) (by decide +kernel) ok_yX1_takeOver mk_RX4_170 (cfX1_takeOver (l := E.l) (G := E.G) (fun j => a0 (12 + j)) (fun j => a0 (4 + j)) h6) [12, 13, 14, 15, 4, 5, 6, 7] (q0 := 0) rfl rfl rfl rfl rfl rfl rfl rfl rfl (Nat.le_of_ble_eq_true rfl) (Nat.le_of_ble_eq_true rfl) (Nat.le_of_ble_eq_true rfl) ?_
    show V E _ (wdX E.G a0 (xs_trial S0 q5)) 27 [(0, .ref (a0 0)), (1, .int p1), (2, .int (0 : Int32))] []
    refine V_pb C hn [(.iconst 0, 1), (.istore_n 3, 1)] (pc' := 29) (ls' := [(0, .ref (a0 0)), (1, .int p1), (2, .int (0 : Int32)), (3, .int (0 : Int32))]) (st' := []) (decB_ok (by decide +kernel)) rfl rfl ?_
    refine V_sub (ls' := [(0, .ref (a0 0)), (1, .int p1), (2, .int (0 : Int32)), (3, .int (0 : Int32))]) rfl ?_
    exact cfX4_runs_L29 C hn FU _ _ _ h
set_option maxRecDepth 100000 in
set_option maxHeartbeats 400000 in
theorem cfX4_round_L13 {E : VE} (C : Ctx E cX4_round RX4 4 (some .int)) (hn : E.nL = 2) {a0 : Nat → Nat} {out : Int32 × XT} : ∀ (n : Nat) (v1 : Int32) (S0 : XT), fX4_round_L13 n v1 S0 = some out → V E (QR E (some (.int out.1)) (wdX E.G a0 out.2)) (wdX E.G a0 S0) 13 [(0, .ref (a0 0)), (1, .int v1)] [] := by
  intro n
  induction n with
  | zero =>
    intro v1 S0 h
    cases h
  | succ n ih =>
    intro v1 S0 h
    unfold fX4_round_L13 at h
    refine V_pb C hn [(.iload_n 1, 1), (.bipush 24, 2)] (pc' := 16) (ls' := [(0, .ref (a0 0)), (1, .int v1)]) (st' := [.int (24 : Int32), .int v1]) (decB_ok (by decide +kernel)) rfl rfl ?_
    refine V_ic_gt C (off := 33) (tgt := 49) (by decide +kernel) (by decide) h (fun _ h => ?_) (fun _ h => ?_)
    · refine V_pb C hn [(.iconst (-1), 1)] (pc' := 50) (ls' := [(0, .ref (a0 0)), (1, .int v1)]) (st' := [.int (cI (-1))]) (decB_ok (by decide +kernel)) rfl rfl ?_
      have h := Option.some.inj h
      subst h
      exact V_iret C (by decide +kernel) rfl
    · refine V_pb C hn [(.aload_n 0, 1)] (pc' := 20) (ls' := [(0, .ref (a0 0)), (1, .int v1)]) (st' := [.ref (a0 0)]) (decB_ok (by decide +kernel)) rfl rfl ?_
      refine V_get C (v := .ref (a0 12)) (by decide +kernel) 0 2 fk_RX4_19 rfl rfl ?_
      refine V_pb C hn [(.iconst 1, 1)] (pc' := 24) (ls' := [(0, .ref (a0 0)), (1, .int v1)]) (st' := [.int (1 : Int32), .ref (a0 12)]) (decB_ok (by decide +kernel)) rfl rfl ?_
      obtain ⟨q3, h4, h⟩ := bnd h
      refine V_callV (ws' := wdX E.G a0 (xs_trial S0 q3)) C (As := [.int (1 : Int32)]) (rest := []) (by decide +kernel) ok_yX1_goOn mk_RX4_229 (cfX1_goOn (l := E.l) (G := E.G) (fun j => a0 (12 + j)) h4) [12, 13, 14, 15] (q0 := 0) rfl rfl rfl rfl rfl rfl rfl rfl rfl (Nat.le_of_ble_eq_true rfl) (Nat.le_of_ble_eq_true rfl) (Nat.le_of_ble_eq_true rfl) ?_
      show V E _ (wdX E.G a0 (xs_trial S0 q3)) 27 [(0, .ref (a0 0)), (1, .int v1)] []
      refine V_pb C hn [(.aload_n 0, 1)] (pc' := 28) (ls' := [(0, .ref (a0 0)), (1, .int v1)]) (st' := [.ref (a0 0)]) (decB_ok (by decide +kernel)) rfl rfl ?_
      refine V_get C (v := .ref (a0 12)) (by decide +kernel) 0 2 fk_RX4_19 rfl rfl ?_
      refine V_pb C hn [(.aload_n 0, 1)] (pc' := 32) (ls' := [(0, .ref (a0 0)), (1, .int v1)]) (st' := [.ref (a0 0), .ref (a0 12)]) (decB_ok (by decide +kernel)) rfl rfl ?_
      refine V_get C (v := .ref (a0 4)) (by decide +kernel) 0 0 fk_RX4_12 rfl rfl ?_
      obtain ⟨q5, h6, h⟩ := bnd h
      refine V_callVp C (As := [.ref (a0 4)]) (rest := []) (by decide +kernel) ok_yX1_standsAs mk_RX4_235 (cfX1_standsAs (l := E.l) (G := E.G) (fun j => a0 (12 + j)) (fun j => a0 (4 + j)) h6) [12, 13, 14, 15, 4, 5, 6, 7] (q0 := 0) rfl rfl rfl rfl rfl rfl rfl (Nat.le_of_ble_eq_true rfl) (Nat.le_of_ble_eq_true rfl) (Nat.le_of_ble_eq_true rfl) ?_
      show V E _ (wdX E.G a0 (xs_trial S0 q3)) 38 [(0, .ref (a0 0)), (1, .int v1)] [.int q5]
      refine V_if_eq C (off := 5) (tgt := 43) (by decide +kernel) (by decide) h (fun _ h => ?_) (fun _ h => ?_)
      · refine V_pb C hn [(.iinc 1 1, 3)] (pc' := 46) (ls' := [(0, .ref (a0 0)), (1, .int (v1 + (1 : Int32)))]) (st' := []) (decB_ok (by decide +kernel)) rfl rfl ?_
        refine V_goto C (off := -33) (tgt := 13) (by decide +kernel) (by decide) ?_
        refine V_sub (ls' := [(0, .ref (a0 0)), (1, .int (v1 + (1 : Int32)))]) rfl ?_
        exact ih _ _ h
      · refine V_pb C hn [(.iload_n 1, 1)] (pc' := 42) (ls' := [(0, .ref (a0 0)), (1, .int v1)]) (st' := [.int v1]) (decB_ok (by decide +kernel)) rfl rfl ?_
        have h := Option.some.inj h
        subst h
        exact V_iret C (by decide +kernel) rfl
set_option maxRecDepth 100000 in
set_option maxHeartbeats 400000 in
theorem cfX4_round {l : Launch} {G : GG} (a0 : Nat → Nat) {S0 : XT} {out : Int32 × XT} (h : fX4_round S0 = some out) : Con l G 4 yX4_round cX4_round 2 (some .int) [.ref (a0 0)] (wdX G a0 S0) (some (.int out.1)) (wdX G a0 out.2) := by
  refine Con_of (by decide +kernel) (Nat.le_of_ble_eq_true rfl) (fun E hl hG hn C => ?_)
  subst hl
  subst hG
  have C : Ctx E cX4_round RX4 4 (some .int) := C
  show V E _ _ 0 [(0, .ref (a0 0))] []
  unfold fX4_round at h
  refine V_pb C hn [(.aload_n 0, 1)] (pc' := 1) (ls' := [(0, .ref (a0 0))]) (st' := [.ref (a0 0)]) (decB_ok (by decide +kernel)) rfl rfl ?_
  refine V_get C (v := .ref (a0 12)) (by decide +kernel) 0 2 fk_RX4_19 rfl rfl ?_
  refine V_pb C hn [(.aload_n 0, 1)] (pc' := 5) (ls' := [(0, .ref (a0 0))]) (st' := [.ref (a0 0), .ref (a0 12)]) (decB_ok (by decide +kernel)) rfl rfl ?_
  refine V_get C (v := .ref (a0 4)) (by decide +kernel) 0 0 fk_RX4_12 rfl rfl ?_
  obtain ⟨q1, h2, h⟩ := bnd h
  refine V_callV (ws' := wdX E.G a0 (xs_trial S0 q1)) C (As := [.ref (a0 4)]) (rest := []) (by decide +kernel) ok_yX1_takeOver mk_RX4_170 (cfX1_takeOver (l := E.l) (G := E.G) (fun j => a0 (12 + j)) (fun j => a0 (4 + j)) h2) [12, 13, 14, 15, 4, 5, 6, 7] (q0 := 0) rfl rfl rfl rfl rfl rfl rfl rfl rfl (Nat.le_of_ble_eq_true rfl) (Nat.le_of_ble_eq_true rfl) (Nat.le_of_ble_eq_true rfl) ?_
  show V E _ (wdX E.G a0 (xs_trial S0 q1)) 11 [(0, .ref (a0 0))] []
  refine V_pb C hn [(.iconst 1, 1), (.istore_n 1, 1)] (pc' := 13) (ls' := [(0, .ref (a0 0)), (1, .int (1 : Int32))]) (st' := []) (decB_ok (by decide +kernel)) rfl rfl ?_
  refine V_sub (ls' := [(0, .ref (a0 0)), (1, .int (1 : Int32))]) rfl ?_
  exact cfX4_round_L13 C hn FU _ _ h
set_option maxRecDepth 100000 in
set_option maxHeartbeats 400000 in
theorem cfX4_way_j95 {E : VE} (C : Ctx E cX4_way RX4 4 (some .int)) (hn : E.nL = 8) {a0 : Nat → Nat} {p1 : Int32} {v2 : Int64} {v4 : Int64} {S0 : XT} {out : Int32 × XT} (h : fX4_way_j95 p1 v2 v4 S0 = some out) : V E (QR E (some (.int out.1)) (wdX E.G a0 out.2)) (wdX E.G a0 S0) 95 [(2, .long v2), (4, .long v4)] [] := by
  unfold fX4_way_j95 at h
  refine V_pb C hn [(.lload_n 2, 1)] (pc' := 96) (ls' := [(2, .long v2), (4, .long v4)]) (st' := [.long v2]) (decB_ok (by decide +kernel)) rfl rfl ?_
  obtain ⟨q7, h8, h⟩ := bnd h
  refine V_callSp C (As := [.long v2]) (rest := []) (by decide +kernel) ok_yJ13_bitCount_95d88 mk_RX4_239 (cfJ13_bitCount_95d88 (l := E.l) (G := E.G) h8) [] rfl rfl rfl rfl (Nat.le_of_ble_eq_true rfl) (Nat.le_of_ble_eq_true rfl) (Nat.le_of_ble_eq_true rfl) ?_
  show V E _ (wdX E.G a0 S0) 99 [(2, .long v2), (4, .long v4)] [.int q7]
  refine V_pb C hn [(.lload 4, 2)] (pc' := 101) (ls' := [(2, .long v2), (4, .long v4)]) (st' := [.long v4, .int q7]) (decB_ok (by decide +kernel)) rfl rfl ?_
  obtain ⟨q9, h10, h⟩ := bnd h
  refine V_callSp C (As := [.long v4]) (rest := [.int q7]) (by decide +kernel) ok_yJ13_bitCount_95d88 mk_RX4_239 (cfJ13_bitCount_95d88 (l := E.l) (G := E.G) h10) [] rfl rfl rfl rfl (Nat.le_of_ble_eq_true rfl) (Nat.le_of_ble_eq_true rfl) (Nat.le_of_ble_eq_true rfl) ?_
  show V E _ (wdX E.G a0 S0) 104 [(2, .long v2), (4, .long v4)] [.int q9, .int q7]
  refine V_pb C hn [(.iadd, 1)] (pc' := 105) (ls' := [(2, .long v2), (4, .long v4)]) (st' := [.int (q7 + q9)]) (decB_ok (by decide +kernel)) rfl rfl ?_
  have h := Option.some.inj h
  subst h
  exact V_iret C (by decide +kernel) rfl
set_option maxRecDepth 100000 in
set_option maxHeartbeats 400000 in
theorem cfX4_way_j81 {E : VE} (C : Ctx E cX4_way RX4 4 (some .int)) (hn : E.nL = 8) {a0 : Nat → Nat} {p1 : Int32} {v2 : Int64} {v4 : Int64} {v6 : Int32} {S0 : XT} {out : Int32 × XT} {k34 : Int64 → Int64 → Int32 → XT → Option (Int32 × XT)} (hk34 : ∀ (v2 : Int64) (v4 : Int64) (v6 : Int32) (S0 : XT), k34 v2 v4 v6 S0 = some out → V E (QR E (some (.int out.1)) (wdX E.G a0 out.2)) (wdX E.G a0 S0) 34 [(0, .ref (a0 0)), (1, .int p1), (2, .long v2), (4, .long v4), (6, .int v6)] []) (h : fX4_way_j81 k34 p1 v2 v4 v6 S0 = some out) : V E (QR E (some (.int out.1)) (wdX E.G a0 out.2)) (wdX E.G a0 S0) 81 [(0, .ref (a0 0)), (1, .int p1), (2, .long v2), (4, .long v4), (6, .int v6)] [] := by
  unfold fX4_way_j81 at h
  refine V_pb C hn [(.aload_n 0, 1)] (pc' := 82) (ls' := [(0, .ref (a0 0)), (1, .int p1), (2, .long v2), (4, .long v4), (6, .int v6)]) (st' := [.ref (a0 0)]) (decB_ok (by decide +kernel)) rfl rfl ?_
  refine V_get C (v := .ref (a0 12)) (by decide +kernel) 0 2 fk_RX4_19 rfl rfl ?_
  refine V_pb C hn [(.iconst 1, 1)] (pc' := 86) (ls' := [(0, .ref (a0 0)), (1, .int p1), (2, .long v2), (4, .long v4), (6, .int v6)]) (st' := [.int (1 : Int32), .ref (a0 12)]) (decB_ok (by decide +kernel)) rfl rfl ?_
  obtain ⟨q11, h12, h⟩ := bnd h
  refine V_callV (ws' := wdX E.G a0 (xs_trial S0 q11)) C (As := [.int (1 : Int32)]) (rest := []) (by decide +kernel) ok_yX1_goOn mk_RX4_229 (cfX1_goOn (l := E.l) (G := E.G) (fun j => a0 (12 + j)) h12) [12, 13, 14, 15] (q0 := 0) rfl rfl rfl rfl rfl rfl rfl rfl rfl (Nat.le_of_ble_eq_true rfl) (Nat.le_of_ble_eq_true rfl) (Nat.le_of_ble_eq_true rfl) ?_
  show V E _ (wdX E.G a0 (xs_trial S0 q11)) 89 [(0, .ref (a0 0)), (1, .int p1), (2, .long v2), (4, .long v4), (6, .int v6)] []
  refine V_pb C hn [(.iinc 6 1, 3)] (pc' := 92) (ls' := [(0, .ref (a0 0)), (1, .int p1), (2, .long v2), (4, .long v4), (6, .int (v6 + (1 : Int32)))]) (st' := []) (decB_ok (by decide +kernel)) rfl rfl ?_
  refine V_goto C (off := -58) (tgt := 34) (by decide +kernel) (by decide) ?_
  refine V_sub (ls' := [(0, .ref (a0 0)), (1, .int p1), (2, .long v2), (4, .long v4), (6, .int (v6 + (1 : Int32)))]) rfl ?_
  exact hk34 _ _ _ _ h
set_option maxRecDepth 100000 in
set_option maxHeartbeats 400000 in
theorem cfX4_way_L34 {E : VE} (C : Ctx E cX4_way RX4 4 (some .int)) (hn : E.nL = 8) {a0 : Nat → Nat} {p1 : Int32} {out : Int32 × XT} : ∀ (n : Nat) (v2 : Int64) (v4 : Int64) (v6 : Int32) (S0 : XT), fX4_way_L34 p1 n v2 v4 v6 S0 = some out → V E (QR E (some (.int out.1)) (wdX E.G a0 out.2)) (wdX E.G a0 S0) 34 [(0, .ref (a0 0)), (1, .int p1), (2, .long v2), (4, .long v4), (6, .int v6)] [] := by
  intro n
  induction n with
  | zero =>
    intro v2 v4 v6 S0 h
    cases h
  | succ n ih =>
    intro v2 v4 v6 S0 h
    unfold fX4_way_L34 at h
    refine V_pb C hn [(.iload 6, 2), (.bipush 24, 2)] (pc' := 38) (ls' := [(0, .ref (a0 0)), (1, .int p1), (2, .long v2), (4, .long v4), (6, .int v6)]) (st' := [.int (24 : Int32), .int v6]) (decB_ok (by decide +kernel)) rfl rfl ?_
    refine V_ic_gt C (off := 57) (tgt := 95) (by decide +kernel) (by decide) h (fun _ h => ?_) (fun _ h => ?_)
    · refine V_sub (ls' := [(2, .long v2), (4, .long v4)]) rfl ?_
      exact cfX4_way_j95 C hn h
    · refine V_pb C hn [(.aload_n 0, 1)] (pc' := 42) (ls' := [(0, .ref (a0 0)), (1, .int p1), (2, .long v2), (4, .long v4), (6, .int v6)]) (st' := [.ref (a0 0)]) (decB_ok (by decide +kernel)) rfl rfl ?_
      refine V_get C (v := .ref (a0 12)) (by decide +kernel) 0 2 fk_RX4_19 rfl rfl ?_
      refine V_get C (v := .ref (a0 15)) (by decide +kernel) 12 4 fk_RX4_122 rfl rfl ?_
      refine V_pb C hn [(.iload_n 1, 1)] (pc' := 49) (ls' := [(0, .ref (a0 0)), (1, .int p1), (2, .long v2), (4, .long v4), (6, .int v6)]) (st' := [.int p1, .ref (a0 15)]) (decB_ok (by decide +kernel)) rfl rfl ?_
      refine V_iald C (f := (h_cellOf (x_trial S0))) (by decide +kernel) 15 rfl h (fun h => ?_)
      refine V_pb C hn [(.istore 7, 2), (.iload 7, 2), (.bipush 64, 2)] (pc' := 56) (ls' := [(0, .ref (a0 0)), (1, .int p1), (2, .long v2), (4, .long v4), (6, .int v6), (7, .int ((h_cellOf (x_trial S0)) (ix p1)))]) (st' := [.int (64 : Int32), .int ((h_cellOf (x_trial S0)) (ix p1))]) (decB_ok (by decide +kernel)) rfl rfl ?_
      refine V_ic_ge C (off := 13) (tgt := 69) (by decide +kernel) (by decide) h (fun _ h => ?_) (fun _ h => ?_)
      · refine V_pb C hn [(.lload 4, 2), (.lconst 1, 1), (.iload 7, 2), (.bipush 64, 2), (.isub, 1), (.lshl, 1), (.lor, 1), (.lstore 4, 2)] (pc' := 81) (ls' := [(0, .ref (a0 0)), (1, .int p1), (2, .long v2), (4, .long (v4 ||| (jlshl (1 : Int64) (((h_cellOf (x_trial S0)) (ix p1)) - (64 : Int32))))), (6, .int v6), (7, .int ((h_cellOf (x_trial S0)) (ix p1)))]) (st' := []) (decB_ok (by decide +kernel)) rfl rfl ?_
        refine V_sub (ls' := [(0, .ref (a0 0)), (1, .int p1), (2, .long v2), (4, .long (v4 ||| (jlshl (1 : Int64) (((h_cellOf (x_trial S0)) (ix p1)) - (64 : Int32))))), (6, .int v6)]) rfl ?_
        exact cfX4_way_j81 C hn (k34 := (fun v2 v4 v6 S0 => fX4_way_L34 p1 n v2 v4 v6 S0)) (fun v2 v4 v6 S0 h => ih v2 v4 v6 S0 h) h
      · refine V_pb C hn [(.lload_n 2, 1), (.lconst 1, 1), (.iload 7, 2), (.lshl, 1), (.lor, 1), (.lstore_n 2, 1)] (pc' := 66) (ls' := [(0, .ref (a0 0)), (1, .int p1), (2, .long (v2 ||| (jlshl (1 : Int64) ((h_cellOf (x_trial S0)) (ix p1))))), (4, .long v4), (6, .int v6), (7, .int ((h_cellOf (x_trial S0)) (ix p1)))]) (st' := []) (decB_ok (by decide +kernel)) rfl rfl ?_
        refine V_goto C (off := 15) (tgt := 81) (by decide +kernel) (by decide) ?_
        refine V_sub (ls' := [(0, .ref (a0 0)), (1, .int p1), (2, .long (v2 ||| (jlshl (1 : Int64) ((h_cellOf (x_trial S0)) (ix p1))))), (4, .long v4), (6, .int v6)]) rfl ?_
        exact cfX4_way_j81 C hn (k34 := (fun v2 v4 v6 S0 => fX4_way_L34 p1 n v2 v4 v6 S0)) (fun v2 v4 v6 S0 h => ih v2 v4 v6 S0 h) h
set_option maxRecDepth 100000 in
set_option maxHeartbeats 400000 in
theorem cfX4_way {l : Launch} {G : GG} (a0 : Nat → Nat) {p1 : Int32} {S0 : XT} {out : Int32 × XT} (h : fX4_way p1 S0 = some out) : Con l G 4 yX4_way cX4_way 8 (some .int) [.ref (a0 0), .int p1] (wdX G a0 S0) (some (.int out.1)) (wdX G a0 out.2) := by
  refine Con_of (by decide +kernel) (Nat.le_of_ble_eq_true rfl) (fun E hl hG hn C => ?_)
  subst hl
  subst hG
  have C : Ctx E cX4_way RX4 4 (some .int) := C
  show V E _ _ 0 [(0, .ref (a0 0)), (1, .int p1)] []
  unfold fX4_way at h
  refine V_pb C hn [(.aload_n 0, 1), (.iload_n 1, 1)] (pc' := 2) (ls' := [(0, .ref (a0 0)), (1, .int p1)]) (st' := [.int p1, .ref (a0 0)]) (decB_ok (by decide +kernel)) rfl rfl ?_
  obtain ⟨q1, h2, h⟩ := bnd h
  refine V_callV0 C (As := [.int p1]) (rest := []) (by decide +kernel) ok_yX4_isMote mk_RX4_100 (cfX4_isMote (l := E.l) (G := E.G) a0 h2) (q0 := 0) rfl rfl rfl rfl rfl rfl (Nat.le_of_ble_eq_true rfl) (Nat.le_of_ble_eq_true rfl) (Nat.le_of_ble_eq_true rfl) ?_
  show V E _ (wdX E.G a0 S0) 5 [(0, .ref (a0 0)), (1, .int p1)] [.int q1]
  refine V_if_ne C (off := 10) (tgt := 15) (by decide +kernel) (by decide) h (fun _ h => ?_) (fun _ h => ?_)
  · refine V_pb C hn [(.aload_n 0, 1), (.bipush (-2), 2)] (pc' := 11) (ls' := [(0, .ref (a0 0)), (1, .int p1)]) (st' := [.int (cI (-2)), .ref (a0 0)]) (decB_ok (by decide +kernel)) rfl rfl ?_
    obtain ⟨q3, h4, h⟩ := bnd h
    refine V_callV0 C (As := [.int (cI (-2))]) (rest := []) (by decide +kernel) ok_yX4_refuse mk_RX4_57 (cfX4_refuse (l := E.l) (G := E.G) a0 h4) (q0 := 0) rfl rfl rfl rfl rfl rfl (Nat.le_of_ble_eq_true rfl) (Nat.le_of_ble_eq_true rfl) (Nat.le_of_ble_eq_true rfl) ?_
    show V E _ (wdX E.G a0 q3.2) 14 [(0, .ref (a0 0)), (1, .int p1)] [.int q3.1]
    have h := Option.some.inj h
    subst h
    exact V_iret C (by decide +kernel) rfl
  · refine V_pb C hn [(.lconst 0, 1), (.lstore_n 2, 1), (.lconst 0, 1), (.lstore 4, 2), (.aload_n 0, 1)] (pc' := 21) (ls' := [(0, .ref (a0 0)), (1, .int p1), (2, .long (0 : Int64)), (4, .long (0 : Int64))]) (st' := [.ref (a0 0)]) (decB_ok (by decide +kernel)) rfl rfl ?_
    refine V_get C (v := .ref (a0 12)) (by decide +kernel) 0 2 fk_RX4_19 rfl rfl ?_
    refine V_pb C hn [(.aload_n 0, 1)] (pc' := 25) (ls' := [(0, .ref (a0 0)), (1, .int p1), (2, .long (0 : Int64)), (4, .long (0 : Int64))]) (st' := [.ref (a0 0), .ref (a0 12)]) (decB_ok (by decide +kernel)) rfl rfl ?_
    refine V_get C (v := .ref (a0 4)) (by decide +kernel) 0 0 fk_RX4_12 rfl rfl ?_
    obtain ⟨q5, h6, h⟩ := bnd h
    refine V_callV (ws' := wdX E.G a0 (xs_trial S0 q5)) C (As := [.ref (a0 4)]) (rest := []) (by decide +kernel) ok_yX1_takeOver mk_RX4_170 (cfX1_takeOver (l := E.l) (G := E.G) (fun j => a0 (12 + j)) (fun j => a0 (4 + j)) h6) [12, 13, 14, 15, 4, 5, 6, 7] (q0 := 0) rfl rfl rfl rfl rfl rfl rfl rfl rfl (Nat.le_of_ble_eq_true rfl) (Nat.le_of_ble_eq_true rfl) (Nat.le_of_ble_eq_true rfl) ?_
    show V E _ (wdX E.G a0 (xs_trial S0 q5)) 31 [(0, .ref (a0 0)), (1, .int p1), (2, .long (0 : Int64)), (4, .long (0 : Int64))] []
    refine V_pb C hn [(.iconst 0, 1), (.istore 6, 2)] (pc' := 34) (ls' := [(0, .ref (a0 0)), (1, .int p1), (2, .long (0 : Int64)), (4, .long (0 : Int64)), (6, .int (0 : Int32))]) (st' := []) (decB_ok (by decide +kernel)) rfl rfl ?_
    refine V_sub (ls' := [(0, .ref (a0 0)), (1, .int p1), (2, .long (0 : Int64)), (4, .long (0 : Int64)), (6, .int (0 : Int32))]) rfl ?_
    exact cfX4_way_L34 C hn FU _ _ _ _ h
set_option maxRecDepth 100000 in
set_option maxHeartbeats 400000 in
theorem cfX4_walled_L23 {E : VE} (C : Ctx E cX4_walled RX4 5 (some .int)) (hn : E.nL = 4) {a0 : Nat → Nat} {p1 : Int32} {out : Int32 × XT} : ∀ (n : Nat) (v2 : Int32) (v3 : Int32) (S0 : XT), fX4_walled_L23 p1 n v2 v3 S0 = some out → V E (QR E (some (.int out.1)) (wdX E.G a0 out.2)) (wdX E.G a0 S0) 23 [(0, .ref (a0 0)), (2, .int v2), (3, .int v3)] [] := by
  intro n
  induction n with
  | zero =>
    intro v2 v3 S0 h
    cases h
  | succ n ih =>
    intro v2 v3 S0 h
    unfold fX4_walled_L23 at h
    refine V_pb C hn [(.iload_n 3, 1), (.aload_n 0, 1)] (pc' := 25) (ls' := [(0, .ref (a0 0)), (2, .int v2), (3, .int v3)]) (st' := [.ref (a0 0), .int v3]) (decB_ok (by decide +kernel)) rfl rfl ?_
    refine V_get C (v := .ref (a0 12)) (by decide +kernel) 0 2 fk_RX4_19 rfl rfl ?_
    refine V_get C (v := .int (h_count (x_trial S0))) (by decide +kernel) 12 1 fk_RX4_146 rfl rfl ?_
    refine V_ic_ge C (off := 31) (tgt := 62) (by decide +kernel) (by decide) h (fun _ h => ?_) (fun _ h => ?_)
    · refine V_pb C hn [(.iload_n 2, 1)] (pc' := 63) (ls' := [(0, .ref (a0 0)), (2, .int v2), (3, .int v3)]) (st' := [.int v2]) (decB_ok (by decide +kernel)) rfl rfl ?_
      have h := Option.some.inj h
      subst h
      exact V_iret C (by decide +kernel) rfl
    · refine V_pb C hn [(.iload_n 2, 1), (.aload_n 0, 1)] (pc' := 36) (ls' := [(0, .ref (a0 0)), (2, .int v2), (3, .int v3)]) (st' := [.ref (a0 0), .int v2]) (decB_ok (by decide +kernel)) rfl rfl ?_
      refine V_get C (v := .ref (a0 12)) (by decide +kernel) 0 2 fk_RX4_19 rfl rfl ?_
      refine V_pb C hn [(.aload_n 0, 1)] (pc' := 40) (ls' := [(0, .ref (a0 0)), (2, .int v2), (3, .int v3)]) (st' := [.ref (a0 0), .ref (a0 12), .int v2]) (decB_ok (by decide +kernel)) rfl rfl ?_
      refine V_get C (v := .ref (a0 12)) (by decide +kernel) 0 2 fk_RX4_19 rfl rfl ?_
      refine V_get C (v := .ref (a0 15)) (by decide +kernel) 12 4 fk_RX4_122 rfl rfl ?_
      refine V_pb C hn [(.iload_n 3, 1)] (pc' := 47) (ls' := [(0, .ref (a0 0)), (2, .int v2), (3, .int v3)]) (st' := [.int v3, .ref (a0 15), .ref (a0 12), .int v2]) (decB_ok (by decide +kernel)) rfl rfl ?_
      refine V_iald C (f := (h_cellOf (x_trial S0))) (by decide +kernel) 15 rfl h (fun h => ?_)
      obtain ⟨q7, h8, h⟩ := bnd h
      refine V_callVp C (As := [.int ((h_cellOf (x_trial S0)) (ix v3))]) (rest := [.int v2]) (by decide +kernel) ok_yX1_isAtWall mk_RX4_245 (cfX1_isAtWall (l := E.l) (G := E.G) (fun j => a0 (12 + j)) h8) [12, 13, 14, 15] (q0 := 0) rfl rfl rfl rfl rfl rfl rfl (Nat.le_of_ble_eq_true rfl) (Nat.le_of_ble_eq_true rfl) (Nat.le_of_ble_eq_true rfl) ?_
      show V E _ (wdX E.G a0 S0) 51 [(0, .ref (a0 0)), (2, .int v2), (3, .int v3)] [.int q7, .int v2]
      obtain ⟨q9, h10, h⟩ := bnd h
      refine V_callSp C (As := [.int q7]) (rest := [.int v2]) (by decide +kernel) ok_yX4_bit mk_RX4_184 (cfX4_bit (l := E.l) (G := E.G) h10) [] rfl rfl rfl rfl (Nat.le_of_ble_eq_true rfl) (Nat.le_of_ble_eq_true rfl) (Nat.le_of_ble_eq_true rfl) ?_
      show V E _ (wdX E.G a0 S0) 54 [(0, .ref (a0 0)), (2, .int v2), (3, .int v3)] [.int q9, .int v2]
      refine V_pb C hn [(.iadd, 1), (.istore_n 2, 1), (.iinc 3 1, 3)] (pc' := 59) (ls' := [(0, .ref (a0 0)), (2, .int (v2 + q9)), (3, .int (v3 + (1 : Int32)))]) (st' := []) (decB_ok (by decide +kernel)) rfl rfl ?_
      refine V_goto C (off := -36) (tgt := 23) (by decide +kernel) (by decide) ?_
      refine V_sub (ls' := [(0, .ref (a0 0)), (2, .int (v2 + q9)), (3, .int (v3 + (1 : Int32)))]) rfl ?_
      exact ih _ _ _ h
set_option maxRecDepth 100000 in
set_option maxHeartbeats 400000 in
theorem cfX4_walled {l : Launch} {G : GG} (a0 : Nat → Nat) {p1 : Int32} {S0 : XT} {out : Int32 × XT} (h : fX4_walled p1 S0 = some out) : Con l G 5 yX4_walled cX4_walled 4 (some .int) [.ref (a0 0), .int p1] (wdX G a0 S0) (some (.int out.1)) (wdX G a0 out.2) := by
  refine Con_of (by decide +kernel) (Nat.le_of_ble_eq_true rfl) (fun E hl hG hn C => ?_)
  subst hl
  subst hG
  have C : Ctx E cX4_walled RX4 5 (some .int) := C
  show V E _ _ 0 [(0, .ref (a0 0)), (1, .int p1)] []
  unfold fX4_walled at h
  refine V_pb C hn [(.iload_n 1, 1)] (pc' := 1) (ls' := [(0, .ref (a0 0)), (1, .int p1)]) (st' := [.int p1]) (decB_ok (by decide +kernel)) rfl rfl ?_
  obtain ⟨q1, h2, h⟩ := bnd h
  refine V_callSp C (As := [.int p1]) (rest := []) (by decide +kernel) ok_yX4_isTime mk_RX4_194 (cfX4_isTime (l := E.l) (G := E.G) h2) [] rfl rfl rfl rfl (Nat.le_of_ble_eq_true rfl) (Nat.le_of_ble_eq_true rfl) (Nat.le_of_ble_eq_true rfl) ?_
  show V E _ (wdX E.G a0 S0) 4 [(0, .ref (a0 0)), (1, .int p1)] [.int q1]
  refine V_if_ne C (off := 10) (tgt := 14) (by decide +kernel) (by decide) h (fun _ h => ?_) (fun _ h => ?_)
  · refine V_pb C hn [(.aload_n 0, 1), (.bipush (-2), 2)] (pc' := 10) (ls' := [(0, .ref (a0 0)), (1, .int p1)]) (st' := [.int (cI (-2)), .ref (a0 0)]) (decB_ok (by decide +kernel)) rfl rfl ?_
    obtain ⟨q3, h4, h⟩ := bnd h
    refine V_callV0 C (As := [.int (cI (-2))]) (rest := []) (by decide +kernel) ok_yX4_refuse mk_RX4_57 (cfX4_refuse (l := E.l) (G := E.G) a0 h4) (q0 := 0) rfl rfl rfl rfl rfl rfl (Nat.le_of_ble_eq_true rfl) (Nat.le_of_ble_eq_true rfl) (Nat.le_of_ble_eq_true rfl) ?_
    show V E _ (wdX E.G a0 q3.2) 13 [(0, .ref (a0 0)), (1, .int p1)] [.int q3.1]
    have h := Option.some.inj h
    subst h
    exact V_iret C (by decide +kernel) rfl
  · refine V_pb C hn [(.aload_n 0, 1), (.iload_n 1, 1)] (pc' := 16) (ls' := [(0, .ref (a0 0)), (1, .int p1)]) (st' := [.int p1, .ref (a0 0)]) (decB_ok (by decide +kernel)) rfl rfl ?_
    obtain ⟨q5, h6, h⟩ := bnd h
    refine V_callV0 C (As := [.int p1]) (rest := []) (by decide +kernel) ok_yX4_lookAhead mk_RX4_201 (cfX4_lookAhead (l := E.l) (G := E.G) a0 h6) (q0 := 0) rfl rfl rfl rfl rfl rfl (Nat.le_of_ble_eq_true rfl) (Nat.le_of_ble_eq_true rfl) (Nat.le_of_ble_eq_true rfl) ?_
    show V E _ (wdX E.G a0 q5) 19 [(0, .ref (a0 0)), (1, .int p1)] []
    refine V_pb C hn [(.iconst 0, 1), (.istore_n 2, 1), (.iconst 0, 1), (.istore_n 3, 1)] (pc' := 23) (ls' := [(0, .ref (a0 0)), (1, .int p1), (2, .int (0 : Int32)), (3, .int (0 : Int32))]) (st' := []) (decB_ok (by decide +kernel)) rfl rfl ?_
    refine V_sub (ls' := [(0, .ref (a0 0)), (2, .int (0 : Int32)), (3, .int (0 : Int32))]) rfl ?_
    exact cfX4_walled_L23 C hn FU _ _ _ h
set_option maxRecDepth 100000 in
set_option maxHeartbeats 400000 in
theorem cfX4_stirred_j58 {E : VE} (C : Ctx E cX4_stirred RX4 3 (some .int)) (hn : E.nL = 3) {a0 : Nat → Nat} {S0 : XT} {v1 : Int32} {v2 : Int32} {out : Int32} {k4 : Int32 → Int32 → Option (Int32)} (hk4 : ∀ (v1 : Int32) (v2 : Int32), k4 v1 v2 = some out → V E (QR E (some (.int out)) (wdX E.G a0 S0)) (wdX E.G a0 S0) 4 [(0, .ref (a0 0)), (1, .int v1), (2, .int v2)] []) (h : fX4_stirred_j58 k4 S0 v1 v2 = some out) : V E (QR E (some (.int out)) (wdX E.G a0 S0)) (wdX E.G a0 S0) 58 [(0, .ref (a0 0)), (1, .int v1), (2, .int v2)] [] := by
  unfold fX4_stirred_j58 at h
  refine V_pb C hn [(.iinc 2 1, 3)] (pc' := 61) (ls' := [(0, .ref (a0 0)), (1, .int v1), (2, .int (v2 + (1 : Int32)))]) (st' := []) (decB_ok (by decide +kernel)) rfl rfl ?_
  refine V_goto C (off := -57) (tgt := 4) (by decide +kernel) (by decide) ?_
  refine V_sub (ls' := [(0, .ref (a0 0)), (1, .int v1), (2, .int (v2 + (1 : Int32)))]) rfl ?_
  exact hk4 _ _ h
set_option maxRecDepth 100000 in
set_option maxHeartbeats 400000 in
theorem cfX4_stirred_L4 {E : VE} (C : Ctx E cX4_stirred RX4 3 (some .int)) (hn : E.nL = 3) {a0 : Nat → Nat} {S0 : XT} {out : Int32} : ∀ (n : Nat) (v1 : Int32) (v2 : Int32), fX4_stirred_L4 S0 n v1 v2 = some out → V E (QR E (some (.int out)) (wdX E.G a0 S0)) (wdX E.G a0 S0) 4 [(0, .ref (a0 0)), (1, .int v1), (2, .int v2)] [] := by
  intro n
  induction n with
  | zero =>
    intro v1 v2 h
    cases h
  | succ n ih =>
    intro v1 v2 h
    unfold fX4_stirred_L4 at h
    refine V_pb C hn [(.iload_n 2, 1), (.aload_n 0, 1)] (pc' := 6) (ls' := [(0, .ref (a0 0)), (1, .int v1), (2, .int v2)]) (st' := [.ref (a0 0), .int v2]) (decB_ok (by decide +kernel)) rfl rfl ?_
    refine V_get C (v := .ref (a0 4)) (by decide +kernel) 0 0 fk_RX4_12 rfl rfl ?_
    refine V_get C (v := .int (h_count (x_now S0))) (by decide +kernel) 4 1 fk_RX4_146 rfl rfl ?_
    refine V_ic_ge C (off := 52) (tgt := 64) (by decide +kernel) (by decide) h (fun _ h => ?_) (fun _ h => ?_)
    · refine V_pb C hn [(.iload_n 1, 1)] (pc' := 65) (ls' := [(0, .ref (a0 0)), (1, .int v1), (2, .int v2)]) (st' := [.int v1]) (decB_ok (by decide +kernel)) rfl rfl ?_
      have h := Option.some.inj h
      subst h
      exact V_iret C (by decide +kernel) rfl
    · refine V_pb C hn [(.aload_n 0, 1)] (pc' := 16) (ls' := [(0, .ref (a0 0)), (1, .int v1), (2, .int v2)]) (st' := [.ref (a0 0)]) (decB_ok (by decide +kernel)) rfl rfl ?_
      refine V_get C (v := .ref (a0 4)) (by decide +kernel) 0 0 fk_RX4_12 rfl rfl ?_
      refine V_pb C hn [(.aload_n 0, 1)] (pc' := 20) (ls' := [(0, .ref (a0 0)), (1, .int v1), (2, .int v2)]) (st' := [.ref (a0 0), .ref (a0 4)]) (decB_ok (by decide +kernel)) rfl rfl ?_
      refine V_get C (v := .ref (a0 4)) (by decide +kernel) 0 0 fk_RX4_12 rfl rfl ?_
      refine V_get C (v := .ref (a0 5)) (by decide +kernel) 4 2 fk_RX4_113 rfl rfl ?_
      refine V_pb C hn [(.iload_n 2, 1)] (pc' := 27) (ls' := [(0, .ref (a0 0)), (1, .int v1), (2, .int v2)]) (st' := [.int v2, .ref (a0 5), .ref (a0 4)]) (decB_ok (by decide +kernel)) rfl rfl ?_
      refine V_iald C (f := (h_kindOf (x_now S0))) (by decide +kernel) 5 rfl h (fun h => ?_)
      refine V_pb C hn [(.aload_n 0, 1)] (pc' := 29) (ls' := [(0, .ref (a0 0)), (1, .int v1), (2, .int v2)]) (st' := [.ref (a0 0), .int ((h_kindOf (x_now S0)) (ix v2)), .ref (a0 4)]) (decB_ok (by decide +kernel)) rfl rfl ?_
      refine V_get C (v := .ref (a0 4)) (by decide +kernel) 0 0 fk_RX4_12 rfl rfl ?_
      refine V_get C (v := .ref (a0 7)) (by decide +kernel) 4 4 fk_RX4_122 rfl rfl ?_
      refine V_pb C hn [(.iload_n 2, 1)] (pc' := 36) (ls' := [(0, .ref (a0 0)), (1, .int v1), (2, .int v2)]) (st' := [.int v2, .ref (a0 7), .int ((h_kindOf (x_now S0)) (ix v2)), .ref (a0 4)]) (decB_ok (by decide +kernel)) rfl rfl ?_
      refine V_iald C (f := (h_cellOf (x_now S0))) (by decide +kernel) 7 rfl h (fun h => ?_)
      obtain ⟨q1, h2, h⟩ := bnd h
      refine V_callVp C (As := [.int ((h_kindOf (x_now S0)) (ix v2)), .int ((h_cellOf (x_now S0)) (ix v2))]) (rest := []) (by decide +kernel) ok_yX1_next mk_RX4_125 (cfX1_next (l := E.l) (G := E.G) (fun j => a0 (4 + j)) h2) [4, 5, 6, 7] (q0 := 0) rfl rfl rfl rfl rfl rfl rfl (Nat.le_of_ble_eq_true rfl) (Nat.le_of_ble_eq_true rfl) (Nat.le_of_ble_eq_true rfl) ?_
      show V E _ (wdX E.G a0 S0) 40 [(0, .ref (a0 0)), (1, .int v1), (2, .int v2)] [.int q1]
      refine V_pb C hn [(.aload_n 0, 1)] (pc' := 41) (ls' := [(0, .ref (a0 0)), (1, .int v1), (2, .int v2)]) (st' := [.ref (a0 0), .int q1]) (decB_ok (by decide +kernel)) rfl rfl ?_
      refine V_get C (v := .ref (a0 4)) (by decide +kernel) 0 0 fk_RX4_12 rfl rfl ?_
      refine V_get C (v := .ref (a0 7)) (by decide +kernel) 4 4 fk_RX4_122 rfl rfl ?_
      refine V_pb C hn [(.iload_n 2, 1)] (pc' := 48) (ls' := [(0, .ref (a0 0)), (1, .int v1), (2, .int v2)]) (st' := [.int v2, .ref (a0 7), .int q1]) (decB_ok (by decide +kernel)) rfl rfl ?_
      refine V_iald C (f := (h_cellOf (x_now S0))) (by decide +kernel) 7 rfl h (fun h => ?_)
      refine V_ic_eq C (off := 9) (tgt := 58) (by decide +kernel) (by decide) h (fun _ h => ?_) (fun _ h => ?_)
      · refine V_sub (ls' := [(0, .ref (a0 0)), (1, .int v1), (2, .int v2)]) rfl ?_
        exact cfX4_stirred_j58 C hn (k4 := (fun v1 v2 => fX4_stirred_L4 S0 n v1 v2)) (fun v1 v2 h => ih v1 v2 h) h
      · refine V_pb C hn [(.iload_n 1, 1), (.iconst 1, 1), (.iload_n 2, 1), (.ishl, 1), (.ior, 1), (.istore_n 1, 1)] (pc' := 58) (ls' := [(0, .ref (a0 0)), (1, .int (v1 ||| (jshl (1 : Int32) v2))), (2, .int v2)]) (st' := []) (decB_ok (by decide +kernel)) rfl rfl ?_
        refine V_sub (ls' := [(0, .ref (a0 0)), (1, .int (v1 ||| (jshl (1 : Int32) v2))), (2, .int v2)]) rfl ?_
        exact cfX4_stirred_j58 C hn (k4 := (fun v1 v2 => fX4_stirred_L4 S0 n v1 v2)) (fun v1 v2 h => ih v1 v2 h) h
set_option maxRecDepth 100000 in
set_option maxHeartbeats 400000 in
theorem cfX4_stirred {l : Launch} {G : GG} (a0 : Nat → Nat) {S0 : XT} {out : Int32} (h : fX4_stirred S0 = some out) : Con l G 3 yX4_stirred cX4_stirred 3 (some .int) [.ref (a0 0)] (wdX G a0 S0) (some (.int out)) (wdX G a0 S0) := by
  refine Con_of (by decide +kernel) (Nat.le_of_ble_eq_true rfl) (fun E hl hG hn C => ?_)
  subst hl
  subst hG
  have C : Ctx E cX4_stirred RX4 3 (some .int) := C
  show V E _ _ 0 [(0, .ref (a0 0))] []
  unfold fX4_stirred at h
  refine V_pb C hn [(.iconst 0, 1), (.istore_n 1, 1), (.iconst 0, 1), (.istore_n 2, 1)] (pc' := 4) (ls' := [(0, .ref (a0 0)), (1, .int (0 : Int32)), (2, .int (0 : Int32))]) (st' := []) (decB_ok (by decide +kernel)) rfl rfl ?_
  refine V_sub (ls' := [(0, .ref (a0 0)), (1, .int (0 : Int32)), (2, .int (0 : Int32))]) rfl ?_
  exact cfX4_stirred_L4 C hn FU _ _ h
set_option maxRecDepth 100000 in
set_option maxHeartbeats 400000 in
theorem cfX4_goesSo_L17 {E : VE} (C : Ctx E cX4_goesSo RX4 3 (some .boolean)) (hn : E.nL = 7) {a0 : Nat → Nat} {p1 : Int32} {p2 : Int32} {p3 : Nat} {p4 : Int32} (hxp3 : p3 < 8) {out : Int32 × XT} : ∀ (n : Nat) (v5 : Int32) (v6 : Int32) (S0 : XT), fX4_goesSo_L17 p1 p2 p3 p4 n v5 v6 S0 = some out → V E (QR E (some (.int out.1)) (wdX E.G a0 out.2)) (wdX E.G a0 S0) 17 [(0, .ref (a0 0)), (1, .int p1), (3, .ref (a0 (36 + 2 * p3 + 1))), (4, .int p4), (5, .int v5), (6, .int v6)] [] := by
  intro n
  induction n with
  | zero =>
    intro v5 v6 S0 h
    cases h
  | succ n ih =>
    intro v5 v6 S0 h
    unfold fX4_goesSo_L17 at h
    refine V_pb C hn [(.iload 6, 2), (.iload 4, 2)] (pc' := 21) (ls' := [(0, .ref (a0 0)), (1, .int p1), (3, .ref (a0 (36 + 2 * p3 + 1))), (4, .int p4), (5, .int v5), (6, .int v6)]) (st' := [.int p4, .int v6]) (decB_ok (by decide +kernel)) rfl rfl ?_
    refine V_ic_ge C (off := 48) (tgt := 69) (by decide +kernel) (by decide) h (fun _ h => ?_) (fun _ h => ?_)
    · refine V_pb C hn [(.iconst 1, 1)] (pc' := 70) (ls' := [(0, .ref (a0 0)), (1, .int p1), (3, .ref (a0 (36 + 2 * p3 + 1))), (4, .int p4), (5, .int v5), (6, .int v6)]) (st' := [.int (1 : Int32)]) (decB_ok (by decide +kernel)) rfl rfl ?_
      have h := Option.some.inj h
      subst h
      exact V_iret C (v := (1 : Int32)) (by decide +kernel) nb1
    · refine V_pb C hn [(.iload 6, 2), (.aload_n 3, 1)] (pc' := 27) (ls' := [(0, .ref (a0 0)), (1, .int p1), (3, .ref (a0 (36 + 2 * p3 + 1))), (4, .int p4), (5, .int v5), (6, .int v6)]) (st' := [.ref (a0 (36 + 2 * p3 + 1)), .int v6]) (decB_ok (by decide +kernel)) rfl rfl ?_
      refine V_alen C (v := (40 : Int32)) (by decide +kernel) (36 + 2 * p3 + 1) 1 (fg_X_sh_1 hxp3) rfl rfl ?_
      refine V_ic_ge C (off := 41) (tgt := 69) (by decide +kernel) (by decide) h (fun _ h => ?_) (fun _ h => ?_)
      · refine V_pb C hn [(.iconst 1, 1)] (pc' := 70) (ls' := [(0, .ref (a0 0)), (1, .int p1), (3, .ref (a0 (36 + 2 * p3 + 1))), (4, .int p4), (5, .int v5), (6, .int v6)]) (st' := [.int (1 : Int32)]) (decB_ok (by decide +kernel)) rfl rfl ?_
        have h := Option.some.inj h
        subst h
        exact V_iret C (v := (1 : Int32)) (by decide +kernel) nb1
      · refine V_pb C hn [(.aload_n 0, 1)] (pc' := 32) (ls' := [(0, .ref (a0 0)), (1, .int p1), (3, .ref (a0 (36 + 2 * p3 + 1))), (4, .int p4), (5, .int v5), (6, .int v6)]) (st' := [.ref (a0 0)]) (decB_ok (by decide +kernel)) rfl rfl ?_
        refine V_get C (v := .ref (a0 12)) (by decide +kernel) 0 2 fk_RX4_19 rfl rfl ?_
        refine V_pb C hn [(.iload_n 1, 1), (.iload 5, 2)] (pc' := 38) (ls' := [(0, .ref (a0 0)), (1, .int p1), (3, .ref (a0 (36 + 2 * p3 + 1))), (4, .int p4), (5, .int v5), (6, .int v6)]) (st' := [.int v5, .int p1, .ref (a0 12)]) (decB_ok (by decide +kernel)) rfl rfl ?_
        obtain ⟨q3, h4, h⟩ := bnd h
        refine V_callVp C (As := [.int p1, .int v5]) (rest := []) (by decide +kernel) ok_yX1_next mk_RX4_125 (cfX1_next (l := E.l) (G := E.G) (fun j => a0 (12 + j)) h4) [12, 13, 14, 15] (q0 := 0) rfl rfl rfl rfl rfl rfl rfl (Nat.le_of_ble_eq_true rfl) (Nat.le_of_ble_eq_true rfl) (Nat.le_of_ble_eq_true rfl) ?_
        show V E _ (wdX E.G a0 S0) 41 [(0, .ref (a0 0)), (1, .int p1), (3, .ref (a0 (36 + 2 * p3 + 1))), (4, .int p4), (5, .int v5), (6, .int v6)] [.int q3]
        refine V_pb C hn [(.istore 5, 2), (.aload_n 0, 1)] (pc' := 44) (ls' := [(0, .ref (a0 0)), (1, .int p1), (3, .ref (a0 (36 + 2 * p3 + 1))), (4, .int p4), (5, .int q3), (6, .int v6)]) (st' := [.ref (a0 0)]) (decB_ok (by decide +kernel)) rfl rfl ?_
        refine V_get C (v := .ref (a0 12)) (by decide +kernel) 0 2 fk_RX4_19 rfl rfl ?_
        obtain ⟨q5, h6, h⟩ := bnd h
        refine V_callV (ws' := wdX E.G a0 (xs_trial S0 q5)) C (As := []) (rest := []) (by decide +kernel) ok_yX1_passHour mk_RX4_325 (cfX1_passHour (l := E.l) (G := E.G) (fun j => a0 (12 + j)) h6) [12, 13, 14, 15] (q0 := 0) rfl rfl rfl rfl rfl rfl rfl rfl rfl (Nat.le_of_ble_eq_true rfl) (Nat.le_of_ble_eq_true rfl) (Nat.le_of_ble_eq_true rfl) ?_
        show V E _ (wdX E.G a0 (xs_trial S0 q5)) 50 [(0, .ref (a0 0)), (1, .int p1), (3, .ref (a0 (36 + 2 * p3 + 1))), (4, .int p4), (5, .int q3), (6, .int v6)] []
        refine V_pb C hn [(.iload 5, 2), (.i2l, 1), (.aload_n 3, 1), (.iload 6, 2)] (pc' := 56) (ls' := [(0, .ref (a0 0)), (1, .int p1), (3, .ref (a0 (36 + 2 * p3 + 1))), (4, .int p4), (5, .int q3), (6, .int v6)]) (st' := [.int v6, .ref (a0 (36 + 2 * p3 + 1)), .long q3.toInt64]) (decB_ok (by decide +kernel)) rfl rfl ?_
        refine V_lald C (f := (sh_elements ((x_sh S0) p3))) (by decide +kernel) (36 + 2 * p3 + 1) (fg_X_sh_1 hxp3) h (fun h => ?_)
        refine V_pb C hn [(.lcmp, 1)] (pc' := 58) (ls' := [(0, .ref (a0 0)), (1, .int p1), (3, .ref (a0 (36 + 2 * p3 + 1))), (4, .int p4), (5, .int q3), (6, .int v6)]) (st' := [.int (lg_cmp q3.toInt64 ((sh_elements ((x_sh S0) p3)) (ix v6)))]) (decB_ok (by decide +kernel)) rfl rfl ?_
        refine V_if_eq C (off := 5) (tgt := 63) (by decide +kernel) (by decide) h (fun _ h => ?_) (fun _ h => ?_)
        · refine V_pb C hn [(.iinc 6 1, 3)] (pc' := 66) (ls' := [(0, .ref (a0 0)), (1, .int p1), (3, .ref (a0 (36 + 2 * p3 + 1))), (4, .int p4), (5, .int q3), (6, .int (v6 + (1 : Int32)))]) (st' := []) (decB_ok (by decide +kernel)) rfl rfl ?_
          refine V_goto C (off := -49) (tgt := 17) (by decide +kernel) (by decide) ?_
          refine V_sub (ls' := [(0, .ref (a0 0)), (1, .int p1), (3, .ref (a0 (36 + 2 * p3 + 1))), (4, .int p4), (5, .int q3), (6, .int (v6 + (1 : Int32)))]) rfl ?_
          exact ih _ _ _ h
        · refine V_pb C hn [(.iconst 0, 1)] (pc' := 62) (ls' := [(0, .ref (a0 0)), (1, .int p1), (3, .ref (a0 (36 + 2 * p3 + 1))), (4, .int p4), (5, .int q3), (6, .int v6)]) (st' := [.int (0 : Int32)]) (decB_ok (by decide +kernel)) rfl rfl ?_
          have h := Option.some.inj h
          subst h
          exact V_iret C (v := (0 : Int32)) (by decide +kernel) nb0
set_option maxRecDepth 100000 in
set_option maxHeartbeats 400000 in
theorem cfX4_goesSo {l : Launch} {G : GG} (a0 : Nat → Nat) {p1 : Int32} {p2 : Int32} {p3 : Nat} {p4 : Int32} {S0 : XT} {out : Int32 × XT} (hxp3 : p3 < 8) (h : fX4_goesSo p1 p2 p3 p4 S0 = some out) : Con l G 3 yX4_goesSo cX4_goesSo 7 (some .boolean) [.ref (a0 0), .int p1, .int p2, .ref (a0 (36 + 2 * p3 + 1)), .int p4] (wdX G a0 S0) (some (.int out.1)) (wdX G a0 out.2) := by
  refine Con_of (by decide +kernel) (Nat.le_of_ble_eq_true rfl) (fun E hl hG hn C => ?_)
  subst hl
  subst hG
  have C : Ctx E cX4_goesSo RX4 3 (some .boolean) := C
  show V E _ _ 0 [(0, .ref (a0 0)), (1, .int p1), (2, .int p2), (3, .ref (a0 (36 + 2 * p3 + 1))), (4, .int p4)] []
  unfold fX4_goesSo at h
  refine V_pb C hn [(.aload_n 0, 1)] (pc' := 1) (ls' := [(0, .ref (a0 0)), (1, .int p1), (2, .int p2), (3, .ref (a0 (36 + 2 * p3 + 1))), (4, .int p4)]) (st' := [.ref (a0 0)]) (decB_ok (by decide +kernel)) rfl rfl ?_
  refine V_get C (v := .ref (a0 12)) (by decide +kernel) 0 2 fk_RX4_19 rfl rfl ?_
  refine V_pb C hn [(.aload_n 0, 1)] (pc' := 5) (ls' := [(0, .ref (a0 0)), (1, .int p1), (2, .int p2), (3, .ref (a0 (36 + 2 * p3 + 1))), (4, .int p4)]) (st' := [.ref (a0 0), .ref (a0 12)]) (decB_ok (by decide +kernel)) rfl rfl ?_
  refine V_get C (v := .ref (a0 4)) (by decide +kernel) 0 0 fk_RX4_12 rfl rfl ?_
  obtain ⟨q1, h2, h⟩ := bnd h
  refine V_callV (ws' := wdX E.G a0 (xs_trial S0 q1)) C (As := [.ref (a0 4)]) (rest := []) (by decide +kernel) ok_yX1_takeOver mk_RX4_170 (cfX1_takeOver (l := E.l) (G := E.G) (fun j => a0 (12 + j)) (fun j => a0 (4 + j)) h2) [12, 13, 14, 15, 4, 5, 6, 7] (q0 := 0) rfl rfl rfl rfl rfl rfl rfl rfl rfl (Nat.le_of_ble_eq_true rfl) (Nat.le_of_ble_eq_true rfl) (Nat.le_of_ble_eq_true rfl) ?_
  show V E _ (wdX E.G a0 (xs_trial S0 q1)) 11 [(0, .ref (a0 0)), (1, .int p1), (2, .int p2), (3, .ref (a0 (36 + 2 * p3 + 1))), (4, .int p4)] []
  refine V_pb C hn [(.iload_n 2, 1), (.istore 5, 2), (.iconst 0, 1), (.istore 6, 2)] (pc' := 17) (ls' := [(0, .ref (a0 0)), (1, .int p1), (2, .int p2), (3, .ref (a0 (36 + 2 * p3 + 1))), (4, .int p4), (5, .int p2), (6, .int (0 : Int32))]) (st' := []) (decB_ok (by decide +kernel)) rfl rfl ?_
  refine V_sub (ls' := [(0, .ref (a0 0)), (1, .int p1), (3, .ref (a0 (36 + 2 * p3 + 1))), (4, .int p4), (5, .int p2), (6, .int (0 : Int32))]) rfl ?_
  exact cfX4_goesSo_L17 C hn hxp3 FU _ _ _ h
set_option maxRecDepth 100000 in
set_option maxHeartbeats 400000 in
theorem cfX4_kinds_j89 {E : VE} (C : Ctx E cX4_kinds RX4 4 (some .int)) (hn : E.nL = 7) {a0 : Nat → Nat} {p1 : Int32} {p2 : Int32} {p3 : Int32} {v5 : Int32} {v6 : Int32} {S0 : XT} {out : Int32 × XT} {k46 : Int32 → Int32 → XT → Option (Int32 × XT)} (hk46 : ∀ (v5 : Int32) (v6 : Int32) (S0 : XT), k46 v5 v6 S0 = some out → V E (QR E (some (.int out.1)) (wdX E.G a0 out.2)) (wdX E.G a0 S0) 46 [(0, .ref (a0 0)), (1, .int p1), (2, .int p2), (3, .int p3), (5, .int v5), (6, .int v6)] []) (h : fX4_kinds_j89 k46 p1 p2 p3 v5 v6 S0 = some out) : V E (QR E (some (.int out.1)) (wdX E.G a0 out.2)) (wdX E.G a0 S0) 89 [(0, .ref (a0 0)), (1, .int p1), (2, .int p2), (3, .int p3), (5, .int v5), (6, .int v6)] [] := by
  unfold fX4_kinds_j89 at h
  refine V_pb C hn [(.iinc 6 1, 3)] (pc' := 92) (ls' := [(0, .ref (a0 0)), (1, .int p1), (2, .int p2), (3, .int p3), (5, .int v5), (6, .int (v6 + (1 : Int32)))]) (st' := []) (decB_ok (by decide +kernel)) rfl rfl ?_
  refine V_goto C (off := -46) (tgt := 46) (by decide +kernel) (by decide) ?_
  refine V_sub (ls' := [(0, .ref (a0 0)), (1, .int p1), (2, .int p2), (3, .int p3), (5, .int v5), (6, .int (v6 + (1 : Int32)))]) rfl ?_
  exact hk46 _ _ _ h
set_option maxRecDepth 100000 in
set_option maxHeartbeats 400000 in
theorem cfX4_kinds_L46 {E : VE} (C : Ctx E cX4_kinds RX4 4 (some .int)) (hn : E.nL = 7) {a0 : Nat → Nat} {p1 : Int32} {p2 : Int32} {p3 : Int32} {out : Int32 × XT} : ∀ (n : Nat) (v5 : Int32) (v6 : Int32) (S0 : XT), fX4_kinds_L46 p1 p2 p3 n v5 v6 S0 = some out → V E (QR E (some (.int out.1)) (wdX E.G a0 out.2)) (wdX E.G a0 S0) 46 [(0, .ref (a0 0)), (1, .int p1), (2, .int p2), (3, .int p3), (5, .int v5), (6, .int v6)] [] := by
  intro n
  induction n with
  | zero =>
    intro v5 v6 S0 h
    cases h
  | succ n ih =>
    intro v5 v6 S0 h
    unfold fX4_kinds_L46 at h
    refine V_pb C hn [(.iload 6, 2), (.iconst 5, 1)] (pc' := 49) (ls' := [(0, .ref (a0 0)), (1, .int p1), (2, .int p2), (3, .int p3), (5, .int v5), (6, .int v6)]) (st' := [.int (5 : Int32), .int v6]) (decB_ok (by decide +kernel)) rfl rfl ?_
    refine V_ic_gt C (off := 46) (tgt := 95) (by decide +kernel) (by decide) h (fun _ h => ?_) (fun _ h => ?_)
    · refine V_pb C hn [(.iload 5, 2)] (pc' := 97) (ls' := [(0, .ref (a0 0)), (1, .int p1), (2, .int p2), (3, .int p3), (5, .int v5), (6, .int v6)]) (st' := [.int v5]) (decB_ok (by decide +kernel)) rfl rfl ?_
      have h := Option.some.inj h
      subst h
      exact V_iret C (by decide +kernel) rfl
    · refine V_pb C hn [(.aload_n 0, 1), (.iload 6, 2), (.aload_n 0, 1)] (pc' := 56) (ls' := [(0, .ref (a0 0)), (1, .int p1), (2, .int p2), (3, .int p3), (5, .int v5), (6, .int v6)]) (st' := [.ref (a0 0), .int v6, .ref (a0 0)]) (decB_ok (by decide +kernel)) rfl rfl ?_
      refine V_get C (v := .ref (a0 4)) (by decide +kernel) 0 0 fk_RX4_12 rfl rfl ?_
      refine V_get C (v := .ref (a0 7)) (by decide +kernel) 4 4 fk_RX4_122 rfl rfl ?_
      refine V_pb C hn [(.iload_n 3, 1)] (pc' := 63) (ls' := [(0, .ref (a0 0)), (1, .int p1), (2, .int p2), (3, .int p3), (5, .int v5), (6, .int v6)]) (st' := [.int p3, .ref (a0 7), .int v6, .ref (a0 0)]) (decB_ok (by decide +kernel)) rfl rfl ?_
      refine V_iald C (f := (h_cellOf (x_now S0))) (by decide +kernel) 7 rfl h (fun h => ?_)
      refine V_pb C hn [(.aload_n 0, 1)] (pc' := 65) (ls' := [(0, .ref (a0 0)), (1, .int p1), (2, .int p2), (3, .int p3), (5, .int v5), (6, .int v6)]) (st' := [.ref (a0 0), .int ((h_cellOf (x_now S0)) (ix p3)), .int v6, .ref (a0 0)]) (decB_ok (by decide +kernel)) rfl rfl ?_
      refine V_get C (v := .ref (a0 3)) (by decide +kernel) 0 4 fk_RX4_24 rfl rfl ?_
      refine V_pb C hn [(.iload_n 1, 1)] (pc' := 69) (ls' := [(0, .ref (a0 0)), (1, .int p1), (2, .int p2), (3, .int p3), (5, .int v5), (6, .int v6)]) (st' := [.int p1, .ref (a0 3), .int ((h_cellOf (x_now S0)) (ix p3)), .int v6, .ref (a0 0)]) (decB_ok (by decide +kernel)) rfl rfl ?_
      refine V_aald3 C (b := a0 (36 + 2 * ix p1)) (by decide +kernel) 3 3 rfl rfl h rfl (fun hf5 h => ?_)
      refine V_get C (v := .ref (a0 (36 + 2 * ix p1 + 1))) (by decide +kernel) (36 + 2 * ix p1) 4 fk_RX4_72 (fg_X_sh_0 (inb_lt hf5)) rfl ?_
      refine V_pb C hn [(.iload_n 2, 1)] (pc' := 74) (ls' := [(0, .ref (a0 0)), (1, .int p1), (2, .int p2), (3, .int p3), (5, .int v5), (6, .int v6)]) (st' := [.int p2, .ref (a0 (36 + 2 * ix p1 + 1)), .int ((h_cellOf (x_now S0)) (ix p3)), .int v6, .ref (a0 0)]) (decB_ok (by decide +kernel)) rfl rfl ?_
      obtain ⟨q6, h7, h⟩ := bnd h
      refine V_callV0 C (As := [.int v6, .int ((h_cellOf (x_now S0)) (ix p3)), .ref (a0 (36 + 2 * ix p1 + 1)), .int p2]) (rest := []) (by decide +kernel) ok_yX4_goesSo mk_RX4_248 (cfX4_goesSo (l := E.l) (G := E.G) a0 (inb_lt hf5) h7) (q0 := 0) rfl rfl rfl rfl rfl rfl (Nat.le_of_ble_eq_true rfl) (Nat.le_of_ble_eq_true rfl) (Nat.le_of_ble_eq_true rfl) ?_
      show V E _ (wdX E.G a0 q6.2) 77 [(0, .ref (a0 0)), (1, .int p1), (2, .int p2), (3, .int p3), (5, .int v5), (6, .int v6)] [.int q6.1]
      refine V_if_eq C (off := 12) (tgt := 89) (by decide +kernel) (by decide) h (fun _ h => ?_) (fun _ h => ?_)
      · refine V_sub (ls' := [(0, .ref (a0 0)), (1, .int p1), (2, .int p2), (3, .int p3), (5, .int v5), (6, .int v6)]) rfl ?_
        exact cfX4_kinds_j89 C hn (k46 := (fun v5 v6 S0 => fX4_kinds_L46 p1 p2 p3 n v5 v6 S0)) (fun v5 v6 S0 h => ih v5 v6 S0 h) h
      · refine V_pb C hn [(.iload 5, 2), (.iconst 1, 1), (.iload 6, 2), (.ishl, 1), (.ior, 1), (.istore 5, 2)] (pc' := 89) (ls' := [(0, .ref (a0 0)), (1, .int p1), (2, .int p2), (3, .int p3), (5, .int (v5 ||| (jshl (1 : Int32) v6))), (6, .int v6)]) (st' := []) (decB_ok (by decide +kernel)) rfl rfl ?_
        refine V_sub (ls' := [(0, .ref (a0 0)), (1, .int p1), (2, .int p2), (3, .int p3), (5, .int (v5 ||| (jshl (1 : Int32) v6))), (6, .int v6)]) rfl ?_
        exact cfX4_kinds_j89 C hn (k46 := (fun v5 v6 S0 => fX4_kinds_L46 p1 p2 p3 n v5 v6 S0)) (fun v5 v6 S0 h => ih v5 v6 S0 h) h
set_option maxRecDepth 100000 in
set_option maxHeartbeats 400000 in
theorem cfX4_kinds_j22 {E : VE} (C : Ctx E cX4_kinds RX4 4 (some .int)) (hn : E.nL = 7) {a0 : Nat → Nat} {p1 : Int32} {p2 : Int32} {p3 : Int32} {s0 : Int32} {s1 : Int32} {S0 : XT} {out : Int32 × XT} (h : fX4_kinds_j22 p1 p2 p3 s0 s1 S0 = some out) : V E (QR E (some (.int out.1)) (wdX E.G a0 out.2)) (wdX E.G a0 S0) 22 [(0, .ref (a0 0)), (1, .int p1), (2, .int p2), (3, .int p3)] [.int s0, .int s1, .ref (a0 0)] := by
  unfold fX4_kinds_j22 at h
  refine V_pb C hn [(.iload_n 2, 1)] (pc' := 23) (ls' := [(0, .ref (a0 0)), (1, .int p1), (2, .int p2), (3, .int p3)]) (st' := [.int p2, .int s0, .int s1, .ref (a0 0)]) (decB_ok (by decide +kernel)) rfl rfl ?_
  obtain ⟨q3, h4, h⟩ := bnd h
  refine V_callV0 C (As := [.int s1, .int s0, .int p2]) (rest := []) (by decide +kernel) ok_yX4_rowRefusal mk_RX4_65 (cfX4_rowRefusal (l := E.l) (G := E.G) a0 h4) (q0 := 0) rfl rfl rfl rfl rfl rfl (Nat.le_of_ble_eq_true rfl) (Nat.le_of_ble_eq_true rfl) (Nat.le_of_ble_eq_true rfl) ?_
  show V E _ (wdX E.G a0 S0) 26 [(0, .ref (a0 0)), (1, .int p1), (2, .int p2), (3, .int p3)] [.int q3]
  refine V_pb C hn [(.istore 4, 2), (.iload 4, 2)] (pc' := 30) (ls' := [(0, .ref (a0 0)), (1, .int p1), (2, .int p2), (3, .int p3), (4, .int q3)]) (st' := [.int q3]) (decB_ok (by decide +kernel)) rfl rfl ?_
  refine V_if_eq C (off := 10) (tgt := 40) (by decide +kernel) (by decide) h (fun _ h => ?_) (fun _ h => ?_)
  · refine V_pb C hn [(.iconst 0, 1), (.istore 5, 2), (.iconst 0, 1), (.istore 6, 2)] (pc' := 46) (ls' := [(0, .ref (a0 0)), (1, .int p1), (2, .int p2), (3, .int p3), (4, .int q3), (5, .int (0 : Int32)), (6, .int (0 : Int32))]) (st' := []) (decB_ok (by decide +kernel)) rfl rfl ?_
    refine V_sub (ls' := [(0, .ref (a0 0)), (1, .int p1), (2, .int p2), (3, .int p3), (5, .int (0 : Int32)), (6, .int (0 : Int32))]) rfl ?_
    exact cfX4_kinds_L46 C hn FU _ _ _ h
  · refine V_pb C hn [(.aload_n 0, 1), (.iload 4, 2)] (pc' := 36) (ls' := [(0, .ref (a0 0)), (1, .int p1), (2, .int p2), (3, .int p3), (4, .int q3)]) (st' := [.int q3, .ref (a0 0)]) (decB_ok (by decide +kernel)) rfl rfl ?_
    obtain ⟨q8, h9, h⟩ := bnd h
    refine V_callV0 C (As := [.int q3]) (rest := []) (by decide +kernel) ok_yX4_refuse mk_RX4_57 (cfX4_refuse (l := E.l) (G := E.G) a0 h9) (q0 := 0) rfl rfl rfl rfl rfl rfl (Nat.le_of_ble_eq_true rfl) (Nat.le_of_ble_eq_true rfl) (Nat.le_of_ble_eq_true rfl) ?_
    show V E _ (wdX E.G a0 q8.2) 39 [(0, .ref (a0 0)), (1, .int p1), (2, .int p2), (3, .int p3), (4, .int q3)] [.int q8.1]
    have h := Option.some.inj h
    subst h
    exact V_iret C (by decide +kernel) rfl
set_option maxRecDepth 100000 in
set_option maxHeartbeats 400000 in
theorem cfX4_kinds_j21 {E : VE} (C : Ctx E cX4_kinds RX4 4 (some .int)) (hn : E.nL = 7) {a0 : Nat → Nat} {p1 : Int32} {p2 : Int32} {p3 : Int32} {s0 : Int32} {S0 : XT} {out : Int32 × XT} (h : fX4_kinds_j21 p1 p2 p3 s0 S0 = some out) : V E (QR E (some (.int out.1)) (wdX E.G a0 out.2)) (wdX E.G a0 S0) 21 [(0, .ref (a0 0)), (1, .int p1), (2, .int p2), (3, .int p3)] [.int s0, .ref (a0 0)] := by
  unfold fX4_kinds_j21 at h
  refine V_pb C hn [(.iconst 0, 1)] (pc' := 22) (ls' := [(0, .ref (a0 0)), (1, .int p1), (2, .int p2), (3, .int p3)]) (st' := [.int (0 : Int32), .int s0, .ref (a0 0)]) (decB_ok (by decide +kernel)) rfl rfl ?_
  refine V_sub (ls' := [(0, .ref (a0 0)), (1, .int p1), (2, .int p2), (3, .int p3)]) rfl ?_
  exact cfX4_kinds_j22 C hn h
set_option maxRecDepth 100000 in
set_option maxHeartbeats 400000 in
theorem cfX4_kinds {l : Launch} {G : GG} (a0 : Nat → Nat) {p1 : Int32} {p2 : Int32} {p3 : Int32} {S0 : XT} {out : Int32 × XT} (h : fX4_kinds p1 p2 p3 S0 = some out) : Con l G 4 yX4_kinds cX4_kinds 7 (some .int) [.ref (a0 0), .int p1, .int p2, .int p3] (wdX G a0 S0) (some (.int out.1)) (wdX G a0 out.2) := by
  refine Con_of (by decide +kernel) (Nat.le_of_ble_eq_true rfl) (fun E hl hG hn C => ?_)
  subst hl
  subst hG
  have C : Ctx E cX4_kinds RX4 4 (some .int) := C
  show V E _ _ 0 [(0, .ref (a0 0)), (1, .int p1), (2, .int p2), (3, .int p3)] []
  unfold fX4_kinds at h
  refine V_pb C hn [(.aload_n 0, 1), (.iload_n 1, 1), (.iload_n 2, 1)] (pc' := 3) (ls' := [(0, .ref (a0 0)), (1, .int p1), (2, .int p2), (3, .int p3)]) (st' := [.int p2, .int p1, .ref (a0 0)]) (decB_ok (by decide +kernel)) rfl rfl ?_
  obtain ⟨q1, h2, h⟩ := bnd h
  refine V_callSp C (As := [.int p2]) (rest := [.int p1, .ref (a0 0)]) (by decide +kernel) ok_yX4_isElementCount mk_RX4_54 (cfX4_isElementCount (l := E.l) (G := E.G) h2) [] rfl rfl rfl rfl (Nat.le_of_ble_eq_true rfl) (Nat.le_of_ble_eq_true rfl) (Nat.le_of_ble_eq_true rfl) ?_
  show V E _ (wdX E.G a0 S0) 6 [(0, .ref (a0 0)), (1, .int p1), (2, .int p2), (3, .int p3)] [.int q1, .int p1, .ref (a0 0)]
  refine V_if_eq C (off := 15) (tgt := 21) (by decide +kernel) (by decide) h (fun _ h => ?_) (fun _ h => ?_)
  · refine V_sub (ls' := [(0, .ref (a0 0)), (1, .int p1), (2, .int p2), (3, .int p3)]) rfl ?_
    exact cfX4_kinds_j21 C hn h
  · refine V_pb C hn [(.aload_n 0, 1), (.iload_n 3, 1)] (pc' := 11) (ls' := [(0, .ref (a0 0)), (1, .int p1), (2, .int p2), (3, .int p3)]) (st' := [.int p3, .ref (a0 0), .int p1, .ref (a0 0)]) (decB_ok (by decide +kernel)) rfl rfl ?_
    obtain ⟨q10, h11, h⟩ := bnd h
    refine V_callV0 C (As := [.int p3]) (rest := [.int p1, .ref (a0 0)]) (by decide +kernel) ok_yX4_isMote mk_RX4_100 (cfX4_isMote (l := E.l) (G := E.G) a0 h11) (q0 := 0) rfl rfl rfl rfl rfl rfl (Nat.le_of_ble_eq_true rfl) (Nat.le_of_ble_eq_true rfl) (Nat.le_of_ble_eq_true rfl) ?_
    show V E _ (wdX E.G a0 S0) 14 [(0, .ref (a0 0)), (1, .int p1), (2, .int p2), (3, .int p3)] [.int q10, .int p1, .ref (a0 0)]
    refine V_if_eq C (off := 7) (tgt := 21) (by decide +kernel) (by decide) h (fun _ h => ?_) (fun _ h => ?_)
    · refine V_sub (ls' := [(0, .ref (a0 0)), (1, .int p1), (2, .int p2), (3, .int p3)]) rfl ?_
      exact cfX4_kinds_j21 C hn h
    · refine V_pb C hn [(.iconst 1, 1)] (pc' := 18) (ls' := [(0, .ref (a0 0)), (1, .int p1), (2, .int p2), (3, .int p3)]) (st' := [.int (1 : Int32), .int p1, .ref (a0 0)]) (decB_ok (by decide +kernel)) rfl rfl ?_
      refine V_goto C (off := 4) (tgt := 22) (by decide +kernel) (by decide) ?_
      refine V_sub (ls' := [(0, .ref (a0 0)), (1, .int p1), (2, .int p2), (3, .int p3)]) rfl ?_
      exact cfX4_kinds_j22 C hn h
set_option maxRecDepth 100000 in
set_option maxHeartbeats 400000 in
theorem cfX4_lookAheadBy {l : Launch} {G : GG} (a0 : Nat → Nat) {p1 : Int32} {p2 : Int32} {p3 : Int32} {S0 : XT} {out : XT} (h : fX4_lookAheadBy p1 p2 p3 S0 = some out) : Con l G 4 yX4_lookAheadBy cX4_lookAheadBy 4 none [.ref (a0 0), .int p1, .int p2, .int p3] (wdX G a0 S0) none (wdX G a0 out) := by
  refine Con_of (by decide +kernel) (Nat.le_of_ble_eq_true rfl) (fun E hl hG hn C => ?_)
  subst hl
  subst hG
  have C : Ctx E cX4_lookAheadBy RX4 4 none := C
  show V E _ _ 0 [(0, .ref (a0 0)), (1, .int p1), (2, .int p2), (3, .int p3)] []
  unfold fX4_lookAheadBy at h
  refine V_pb C hn [(.aload_n 0, 1)] (pc' := 1) (ls' := [(0, .ref (a0 0)), (1, .int p1), (2, .int p2), (3, .int p3)]) (st' := [.ref (a0 0)]) (decB_ok (by decide +kernel)) rfl rfl ?_
  refine V_get C (v := .ref (a0 12)) (by decide +kernel) 0 2 fk_RX4_19 rfl rfl ?_
  refine V_pb C hn [(.aload_n 0, 1)] (pc' := 5) (ls' := [(0, .ref (a0 0)), (1, .int p1), (2, .int p2), (3, .int p3)]) (st' := [.ref (a0 0), .ref (a0 12)]) (decB_ok (by decide +kernel)) rfl rfl ?_
  refine V_get C (v := .ref (a0 4)) (by decide +kernel) 0 0 fk_RX4_12 rfl rfl ?_
  obtain ⟨q1, h2, h⟩ := bnd h
  refine V_callV (ws' := wdX E.G a0 (xs_trial S0 q1)) C (As := [.ref (a0 4)]) (rest := []) (by decide +kernel) ok_yX1_takeOver mk_RX4_170 (cfX1_takeOver (l := E.l) (G := E.G) (fun j => a0 (12 + j)) (fun j => a0 (4 + j)) h2) [12, 13, 14, 15, 4, 5, 6, 7] (q0 := 0) rfl rfl rfl rfl rfl rfl rfl rfl rfl (Nat.le_of_ble_eq_true rfl) (Nat.le_of_ble_eq_true rfl) (Nat.le_of_ble_eq_true rfl) ?_
  show V E _ (wdX E.G a0 (xs_trial S0 q1)) 11 [(0, .ref (a0 0)), (1, .int p1), (2, .int p2), (3, .int p3)] []
  refine V_pb C hn [(.aload_n 0, 1)] (pc' := 12) (ls' := [(0, .ref (a0 0)), (1, .int p1), (2, .int p2), (3, .int p3)]) (st' := [.ref (a0 0)]) (decB_ok (by decide +kernel)) rfl rfl ?_
  refine V_get C (v := .ref (a0 12)) (by decide +kernel) 0 2 fk_RX4_19 rfl rfl ?_
  refine V_pb C hn [(.iload_n 1, 1)] (pc' := 16) (ls' := [(0, .ref (a0 0)), (1, .int p1), (2, .int p2), (3, .int p3)]) (st' := [.int p1, .ref (a0 12)]) (decB_ok (by decide +kernel)) rfl rfl ?_
  obtain ⟨w3, e4, h⟩ := bnd h
  refine V_put C (v := .int p1) (ws' := wdX E.G a0 w3) (by decide +kernel) 12 5 pk_RX4_149 rfl rfl rfl (Nat.le_of_ble_eq_true rfl) (by cases e4; rfl) ?_
  refine V_pb C hn [(.aload_n 0, 1)] (pc' := 20) (ls' := [(0, .ref (a0 0)), (1, .int p1), (2, .int p2), (3, .int p3)]) (st' := [.ref (a0 0)]) (decB_ok (by decide +kernel)) rfl rfl ?_
  refine V_get C (v := .ref (a0 12)) (by decide +kernel) 0 2 fk_RX4_19 rfl rfl ?_
  refine V_pb C hn [(.iload_n 2, 1)] (pc' := 24) (ls' := [(0, .ref (a0 0)), (1, .int p1), (2, .int p2), (3, .int p3)]) (st' := [.int p2, .ref (a0 12)]) (decB_ok (by decide +kernel)) rfl rfl ?_
  obtain ⟨w5, e6, h⟩ := bnd h
  refine V_put C (v := .int p2) (ws' := wdX E.G a0 w5) (by decide +kernel) 12 6 pk_RX4_256 rfl rfl rfl (Nat.le_of_ble_eq_true rfl) (by cases e6; rfl) ?_
  refine V_pb C hn [(.aload_n 0, 1)] (pc' := 28) (ls' := [(0, .ref (a0 0)), (1, .int p1), (2, .int p2), (3, .int p3)]) (st' := [.ref (a0 0)]) (decB_ok (by decide +kernel)) rfl rfl ?_
  refine V_get C (v := .ref (a0 12)) (by decide +kernel) 0 2 fk_RX4_19 rfl rfl ?_
  refine V_pb C hn [(.iload_n 3, 1)] (pc' := 32) (ls' := [(0, .ref (a0 0)), (1, .int p1), (2, .int p2), (3, .int p3)]) (st' := [.int p3, .ref (a0 12)]) (decB_ok (by decide +kernel)) rfl rfl ?_
  obtain ⟨q7, h8, h⟩ := bnd h
  refine V_callV (ws' := wdX E.G a0 (xs_trial w5 q7)) C (As := [.int p3]) (rest := []) (by decide +kernel) ok_yX1_goOn mk_RX4_229 (cfX1_goOn (l := E.l) (G := E.G) (fun j => a0 (12 + j)) h8) [12, 13, 14, 15] (q0 := 0) rfl rfl rfl rfl rfl rfl rfl rfl rfl (Nat.le_of_ble_eq_true rfl) (Nat.le_of_ble_eq_true rfl) (Nat.le_of_ble_eq_true rfl) ?_
  show V E _ (wdX E.G a0 (xs_trial w5 q7)) 35 [(0, .ref (a0 0)), (1, .int p1), (2, .int p2), (3, .int p3)] []
  have h := Option.some.inj h
  subst h
  exact V_vret C (by decide +kernel)
set_option maxRecDepth 100000 in
set_option maxHeartbeats 400000 in
theorem cfX4_setting_j16 {E : VE} (C : Ctx E cX4_setting RX4 5 (some .int)) (hn : E.nL = 8) {a0 : Nat → Nat} {p1 : Int32} {p2 : Int32} {S0 : XT} {out : Int32 × XT} (h : fX4_setting_j16 p1 p2 S0 = some out) : V E (QR E (some (.int out.1)) (wdX E.G a0 out.2)) (wdX E.G a0 S0) 16 [(0, .ref (a0 0))] [] := by
  unfold fX4_setting_j16 at h
  refine V_pb C hn [(.aload_n 0, 1), (.bipush (-2), 2)] (pc' := 19) (ls' := [(0, .ref (a0 0))]) (st' := [.int (cI (-2)), .ref (a0 0)]) (decB_ok (by decide +kernel)) rfl rfl ?_
  obtain ⟨q3, h4, h⟩ := bnd h
  refine V_callV0 C (As := [.int (cI (-2))]) (rest := []) (by decide +kernel) ok_yX4_refuse mk_RX4_57 (cfX4_refuse (l := E.l) (G := E.G) a0 h4) (q0 := 0) rfl rfl rfl rfl rfl rfl (Nat.le_of_ble_eq_true rfl) (Nat.le_of_ble_eq_true rfl) (Nat.le_of_ble_eq_true rfl) ?_
  show V E _ (wdX E.G a0 q3.2) 22 [(0, .ref (a0 0))] [.int q3.1]
  have h := Option.some.inj h
  subst h
  exact V_iret C (by decide +kernel) rfl
set_option maxRecDepth 100000 in
set_option maxHeartbeats 400000 in
theorem cfX4_setting_j141 {E : VE} (C : Ctx E cX4_setting RX4 5 (some .int)) (hn : E.nL = 8) {a0 : Nat → Nat} {p1 : Int32} {p2 : Int32} {v3 : Int32} {v4 : Int32} {S0 : XT} {out : Int32 × XT} (h : fX4_setting_j141 p1 p2 v3 v4 S0 = some out) : V E (QR E (some (.int out.1)) (wdX E.G a0 out.2)) (wdX E.G a0 S0) 141 [(2, .int p2), (3, .int v3), (4, .int v4)] [] := by
  unfold fX4_setting_j141 at h
  refine V_pb C hn [(.iload_n 2, 1)] (pc' := 142) (ls' := [(2, .int p2), (3, .int v3), (4, .int v4)]) (st' := [.int p2]) (decB_ok (by decide +kernel)) rfl rfl ?_
  refine V_if_ne C (off := 7) (tgt := 149) (by decide +kernel) (by decide) h (fun _ h => ?_) (fun _ h => ?_)
  · refine V_pb C hn [(.iload_n 3, 1)] (pc' := 146) (ls' := [(2, .int p2), (3, .int v3), (4, .int v4)]) (st' := [.int v3]) (decB_ok (by decide +kernel)) rfl rfl ?_
    refine V_goto C (off := 5) (tgt := 151) (by decide +kernel) (by decide) ?_
    have h := Option.some.inj h
    subst h
    exact V_iret C (by decide +kernel) rfl
  · refine V_pb C hn [(.iload 4, 2)] (pc' := 151) (ls' := [(2, .int p2), (3, .int v3), (4, .int v4)]) (st' := [.int v4]) (decB_ok (by decide +kernel)) rfl rfl ?_
    have h := Option.some.inj h
    subst h
    exact V_iret C (by decide +kernel) rfl
set_option maxRecDepth 100000 in
set_option maxHeartbeats 400000 in
theorem cfX4_setting_j129 {E : VE} (C : Ctx E cX4_setting RX4 5 (some .int)) (hn : E.nL = 8) {a0 : Nat → Nat} {p1 : Int32} {p2 : Int32} {v3 : Int32} {v4 : Int32} {v5 : Int32} {v6 : Int32} {S0 : XT} {out : Int32 × XT} {k31 : Int32 → Int32 → Int32 → XT → Option (Int32 × XT)} (hk31 : ∀ (v3 : Int32) (v4 : Int32) (v5 : Int32) (S0 : XT), k31 v3 v4 v5 S0 = some out → V E (QR E (some (.int out.1)) (wdX E.G a0 out.2)) (wdX E.G a0 S0) 31 [(0, .ref (a0 0)), (1, .int p1), (2, .int p2), (3, .int v3), (4, .int v4), (5, .int v5)] []) {k41 : Int32 → Int32 → Int32 → Int32 → XT → Option (Int32 × XT)} (hk41 : ∀ (v3 : Int32) (v4 : Int32) (v5 : Int32) (v6 : Int32) (S0 : XT), k41 v3 v4 v5 v6 S0 = some out → V E (QR E (some (.int out.1)) (wdX E.G a0 out.2)) (wdX E.G a0 S0) 41 [(0, .ref (a0 0)), (1, .int p1), (2, .int p2), (3, .int v3), (4, .int v4), (5, .int v5), (6, .int v6)] []) (h : fX4_setting_j129 k31 k41 p1 p2 v3 v4 v5 v6 S0 = some out) : V E (QR E (some (.int out.1)) (wdX E.G a0 out.2)) (wdX E.G a0 S0) 129 [(0, .ref (a0 0)), (1, .int p1), (2, .int p2), (3, .int v3), (4, .int v4), (5, .int v5), (6, .int v6)] [] := by
  unfold fX4_setting_j129 at h
  refine V_pb C hn [(.iinc 6 1, 3)] (pc' := 132) (ls' := [(0, .ref (a0 0)), (1, .int p1), (2, .int p2), (3, .int v3), (4, .int v4), (5, .int v5), (6, .int (v6 + (1 : Int32)))]) (st' := []) (decB_ok (by decide +kernel)) rfl rfl ?_
  refine V_goto C (off := -91) (tgt := 41) (by decide +kernel) (by decide) ?_
  refine V_sub (ls' := [(0, .ref (a0 0)), (1, .int p1), (2, .int p2), (3, .int v3), (4, .int v4), (5, .int v5), (6, .int (v6 + (1 : Int32)))]) rfl ?_
  exact hk41 _ _ _ _ _ h
set_option maxRecDepth 100000 in
set_option maxHeartbeats 400000 in
theorem cfX4_setting_j97 {E : VE} (C : Ctx E cX4_setting RX4 5 (some .int)) (hn : E.nL = 8) {a0 : Nat → Nat} {p1 : Int32} {p2 : Int32} {v3 : Int32} {v4 : Int32} {v5 : Int32} {v6 : Int32} {v7 : Int32} {S0 : XT} {out : Int32 × XT} {k31 : Int32 → Int32 → Int32 → XT → Option (Int32 × XT)} (hk31 : ∀ (v3 : Int32) (v4 : Int32) (v5 : Int32) (S0 : XT), k31 v3 v4 v5 S0 = some out → V E (QR E (some (.int out.1)) (wdX E.G a0 out.2)) (wdX E.G a0 S0) 31 [(0, .ref (a0 0)), (1, .int p1), (2, .int p2), (3, .int v3), (4, .int v4), (5, .int v5)] []) {k41 : Int32 → Int32 → Int32 → Int32 → XT → Option (Int32 × XT)} (hk41 : ∀ (v3 : Int32) (v4 : Int32) (v5 : Int32) (v6 : Int32) (S0 : XT), k41 v3 v4 v5 v6 S0 = some out → V E (QR E (some (.int out.1)) (wdX E.G a0 out.2)) (wdX E.G a0 S0) 41 [(0, .ref (a0 0)), (1, .int p1), (2, .int p2), (3, .int v3), (4, .int v4), (5, .int v5), (6, .int v6)] []) (h : fX4_setting_j97 k31 k41 p1 p2 v3 v4 v5 v6 v7 S0 = some out) : V E (QR E (some (.int out.1)) (wdX E.G a0 out.2)) (wdX E.G a0 S0) 97 [(0, .ref (a0 0)), (1, .int p1), (2, .int p2), (3, .int v3), (4, .int v4), (5, .int v5), (6, .int v6), (7, .int v7)] [] := by
  unfold fX4_setting_j97 at h
  refine V_pb C hn [(.aload_n 0, 1), (.iload 5, 2), (.iload 6, 2), (.iload_n 1, 1)] (pc' := 103) (ls' := [(0, .ref (a0 0)), (1, .int p1), (2, .int p2), (3, .int v3), (4, .int v4), (5, .int v5), (6, .int v6), (7, .int v7)]) (st' := [.int p1, .int v6, .int v5, .ref (a0 0)]) (decB_ok (by decide +kernel)) rfl rfl ?_
  obtain ⟨q9, h10, h⟩ := bnd h
  refine V_callV0 C (As := [.int v5, .int v6, .int p1]) (rest := []) (by decide +kernel) ok_yX4_lookAheadBy mk_RX4_259 (cfX4_lookAheadBy (l := E.l) (G := E.G) a0 h10) (q0 := 0) rfl rfl rfl rfl rfl rfl (Nat.le_of_ble_eq_true rfl) (Nat.le_of_ble_eq_true rfl) (Nat.le_of_ble_eq_true rfl) ?_
  show V E _ (wdX E.G a0 q9) 106 [(0, .ref (a0 0)), (1, .int p1), (2, .int p2), (3, .int v3), (4, .int v4), (5, .int v5), (6, .int v6), (7, .int v7)] []
  refine V_pb C hn [(.aload_n 0, 1)] (pc' := 107) (ls' := [(0, .ref (a0 0)), (1, .int p1), (2, .int p2), (3, .int v3), (4, .int v4), (5, .int v5), (6, .int v6), (7, .int v7)]) (st' := [.ref (a0 0)]) (decB_ok (by decide +kernel)) rfl rfl ?_
  refine V_get C (v := .ref (a0 12)) (by decide +kernel) 0 2 fk_RX4_19 rfl rfl ?_
  obtain ⟨q11, h12, h⟩ := bnd h
  refine V_callVp C (As := []) (rest := []) (by decide +kernel) ok_yX1_carries mk_RX4_208 (cfX1_carries (l := E.l) (G := E.G) (fun j => a0 (12 + j)) h12) [12, 13, 14, 15] (q0 := 0) rfl rfl rfl rfl rfl rfl rfl (Nat.le_of_ble_eq_true rfl) (Nat.le_of_ble_eq_true rfl) (Nat.le_of_ble_eq_true rfl) ?_
  show V E _ (wdX E.G a0 q9) 113 [(0, .ref (a0 0)), (1, .int p1), (2, .int p2), (3, .int v3), (4, .int v4), (5, .int v5), (6, .int v6), (7, .int v7)] [.int q11]
  refine V_if_eq C (off := 16) (tgt := 129) (by decide +kernel) (by decide) h (fun _ h => ?_) (fun _ h => ?_)
  · refine V_sub (ls' := [(0, .ref (a0 0)), (1, .int p1), (2, .int p2), (3, .int v3), (4, .int v4), (5, .int v5), (6, .int v6)]) rfl ?_
    exact cfX4_setting_j129 C hn (k31 := k31) (hk31) (k41 := k41) (hk41) h
  · refine V_pb C hn [(.iload 7, 2), (.istore_n 3, 1), (.bipush 10, 2), (.iload 5, 2), (.imul, 1), (.iload 6, 2), (.iadd, 1), (.istore 4, 2)] (pc' := 129) (ls' := [(0, .ref (a0 0)), (1, .int p1), (2, .int p2), (3, .int v7), (4, .int (((10 : Int32) * v5) + v6)), (5, .int v5), (6, .int v6), (7, .int v7)]) (st' := []) (decB_ok (by decide +kernel)) rfl rfl ?_
    refine V_sub (ls' := [(0, .ref (a0 0)), (1, .int p1), (2, .int p2), (3, .int v7), (4, .int (((10 : Int32) * v5) + v6)), (5, .int v5), (6, .int v6)]) rfl ?_
    exact cfX4_setting_j129 C hn (k31 := k31) (hk31) (k41 := k41) (hk41) h
set_option maxRecDepth 100000 in
set_option maxHeartbeats 400000 in
theorem cfX4_setting_j77 {E : VE} (C : Ctx E cX4_setting RX4 5 (some .int)) (hn : E.nL = 8) {a0 : Nat → Nat} {p1 : Int32} {p2 : Int32} {v3 : Int32} {v4 : Int32} {v5 : Int32} {v6 : Int32} {s0 : Int32} {s1 : Int32} {S0 : XT} {out : Int32 × XT} {k31 : Int32 → Int32 → Int32 → XT → Option (Int32 × XT)} (hk31 : ∀ (v3 : Int32) (v4 : Int32) (v5 : Int32) (S0 : XT), k31 v3 v4 v5 S0 = some out → V E (QR E (some (.int out.1)) (wdX E.G a0 out.2)) (wdX E.G a0 S0) 31 [(0, .ref (a0 0)), (1, .int p1), (2, .int p2), (3, .int v3), (4, .int v4), (5, .int v5)] []) {k41 : Int32 → Int32 → Int32 → Int32 → XT → Option (Int32 × XT)} (hk41 : ∀ (v3 : Int32) (v4 : Int32) (v5 : Int32) (v6 : Int32) (S0 : XT), k41 v3 v4 v5 v6 S0 = some out → V E (QR E (some (.int out.1)) (wdX E.G a0 out.2)) (wdX E.G a0 S0) 41 [(0, .ref (a0 0)), (1, .int p1), (2, .int p2), (3, .int v3), (4, .int v4), (5, .int v5), (6, .int v6)] []) (h : fX4_setting_j77 k31 k41 p1 p2 v3 v4 v5 v6 s0 s1 S0 = some out) : V E (QR E (some (.int out.1)) (wdX E.G a0 out.2)) (wdX E.G a0 S0) 77 [(0, .ref (a0 0)), (1, .int p1), (2, .int p2), (3, .int v3), (4, .int v4), (5, .int v5), (6, .int v6)] [.int s0, .int s1] := by
  unfold fX4_setting_j77 at h
  obtain ⟨q7, h8, h⟩ := bnd h
  refine V_callSp C (As := [.int s0]) (rest := [.int s1]) (by decide +kernel) ok_yX4_bit mk_RX4_184 (cfX4_bit (l := E.l) (G := E.G) h8) [] rfl rfl rfl rfl (Nat.le_of_ble_eq_true rfl) (Nat.le_of_ble_eq_true rfl) (Nat.le_of_ble_eq_true rfl) ?_
  show V E _ (wdX E.G a0 S0) 80 [(0, .ref (a0 0)), (1, .int p1), (2, .int p2), (3, .int v3), (4, .int v4), (5, .int v5), (6, .int v6)] [.int q7, .int s1]
  refine V_pb C hn [(.iadd, 1), (.istore 7, 2), (.iload_n 3, 1), (.iconst (-1), 1)] (pc' := 85) (ls' := [(0, .ref (a0 0)), (1, .int p1), (2, .int p2), (3, .int v3), (4, .int v4), (5, .int v5), (6, .int v6), (7, .int (s1 + q7))]) (st' := [.int (cI (-1)), .int v3]) (decB_ok (by decide +kernel)) rfl rfl ?_
  refine V_ic_eq C (off := 12) (tgt := 97) (by decide +kernel) (by decide) h (fun _ h => ?_) (fun _ h => ?_)
  · refine V_sub (ls' := [(0, .ref (a0 0)), (1, .int p1), (2, .int p2), (3, .int v3), (4, .int v4), (5, .int v5), (6, .int v6), (7, .int (s1 + q7))]) rfl ?_
    exact cfX4_setting_j97 C hn (k31 := k31) (hk31) (k41 := k41) (hk41) h
  · refine V_pb C hn [(.iload 7, 2), (.iload_n 3, 1)] (pc' := 91) (ls' := [(0, .ref (a0 0)), (1, .int p1), (2, .int p2), (3, .int v3), (4, .int v4), (5, .int v5), (6, .int v6), (7, .int (s1 + q7))]) (st' := [.int v3, .int (s1 + q7)]) (decB_ok (by decide +kernel)) rfl rfl ?_
    refine V_ic_lt C (off := 6) (tgt := 97) (by decide +kernel) (by decide) h (fun _ h => ?_) (fun _ h => ?_)
    · refine V_sub (ls' := [(0, .ref (a0 0)), (1, .int p1), (2, .int p2), (3, .int v3), (4, .int v4), (5, .int v5), (6, .int v6), (7, .int (s1 + q7))]) rfl ?_
      exact cfX4_setting_j97 C hn (k31 := k31) (hk31) (k41 := k41) (hk41) h
    · refine V_goto C (off := 35) (tgt := 129) (by decide +kernel) (by decide) ?_
      refine V_sub (ls' := [(0, .ref (a0 0)), (1, .int p1), (2, .int p2), (3, .int v3), (4, .int v4), (5, .int v5), (6, .int v6)]) rfl ?_
      exact cfX4_setting_j129 C hn (k31 := k31) (hk31) (k41 := k41) (hk41) h
set_option maxRecDepth 100000 in
set_option maxHeartbeats 400000 in
theorem cfX4_setting_L41 {E : VE} (C : Ctx E cX4_setting RX4 5 (some .int)) (hn : E.nL = 8) {a0 : Nat → Nat} {p1 : Int32} {p2 : Int32} {out : Int32 × XT} {k31 : Int32 → Int32 → Int32 → XT → Option (Int32 × XT)} (hk31 : ∀ (v3 : Int32) (v4 : Int32) (v5 : Int32) (S0 : XT), k31 v3 v4 v5 S0 = some out → V E (QR E (some (.int out.1)) (wdX E.G a0 out.2)) (wdX E.G a0 S0) 31 [(0, .ref (a0 0)), (1, .int p1), (2, .int p2), (3, .int v3), (4, .int v4), (5, .int v5)] []) : ∀ (n : Nat) (v3 : Int32) (v4 : Int32) (v5 : Int32) (v6 : Int32) (S0 : XT), fX4_setting_L41 k31 p1 p2 n v3 v4 v5 v6 S0 = some out → V E (QR E (some (.int out.1)) (wdX E.G a0 out.2)) (wdX E.G a0 S0) 41 [(0, .ref (a0 0)), (1, .int p1), (2, .int p2), (3, .int v3), (4, .int v4), (5, .int v5), (6, .int v6)] [] := by
  intro n
  induction n with
  | zero =>
    intro v3 v4 v5 v6 S0 h
    cases h
  | succ n ih =>
    intro v3 v4 v5 v6 S0 h
    unfold fX4_setting_L41 at h
    refine V_pb C hn [(.iload 6, 2), (.iconst 4, 1)] (pc' := 44) (ls' := [(0, .ref (a0 0)), (1, .int p1), (2, .int p2), (3, .int v3), (4, .int v4), (5, .int v5), (6, .int v6)]) (st' := [.int (4 : Int32), .int v6]) (decB_ok (by decide +kernel)) rfl rfl ?_
    refine V_ic_gt C (off := 91) (tgt := 135) (by decide +kernel) (by decide) h (fun _ h => ?_) (fun _ h => ?_)
    · refine V_pb C hn [(.iinc 5 1, 3)] (pc' := 138) (ls' := [(0, .ref (a0 0)), (1, .int p1), (2, .int p2), (3, .int v3), (4, .int v4), (5, .int (v5 + (1 : Int32))), (6, .int v6)]) (st' := []) (decB_ok (by decide +kernel)) rfl rfl ?_
      refine V_goto C (off := -107) (tgt := 31) (by decide +kernel) (by decide) ?_
      refine V_sub (ls' := [(0, .ref (a0 0)), (1, .int p1), (2, .int p2), (3, .int v3), (4, .int v4), (5, .int (v5 + (1 : Int32)))]) rfl ?_
      exact hk31 _ _ _ _ h
    · refine V_pb C hn [(.iload 5, 2), (.aload_n 0, 1)] (pc' := 50) (ls' := [(0, .ref (a0 0)), (1, .int p1), (2, .int p2), (3, .int v3), (4, .int v4), (5, .int v5), (6, .int v6)]) (st' := [.ref (a0 0), .int v5]) (decB_ok (by decide +kernel)) rfl rfl ?_
      refine V_get C (v := .ref (a0 4)) (by decide +kernel) 0 0 fk_RX4_12 rfl rfl ?_
      refine V_get C (v := .int (h_doors (x_now S0))) (by decide +kernel) 4 5 fk_RX4_149 rfl rfl ?_
      refine V_pb C hn [(.ixor, 1)] (pc' := 57) (ls' := [(0, .ref (a0 0)), (1, .int p1), (2, .int p2), (3, .int v3), (4, .int v4), (5, .int v5), (6, .int v6)]) (st' := [.int (v5 ^^^ (h_doors (x_now S0)))]) (decB_ok (by decide +kernel)) rfl rfl ?_
      obtain ⟨q5, h6, h⟩ := bnd h
      refine V_callSp C (As := [.int (v5 ^^^ (h_doors (x_now S0)))]) (rest := []) (by decide +kernel) ok_yJ6_bitCount_0f7a4 mk_RX4_252 (cfJ6_bitCount_0f7a4 (l := E.l) (G := E.G) h6) [] rfl rfl rfl rfl (Nat.le_of_ble_eq_true rfl) (Nat.le_of_ble_eq_true rfl) (Nat.le_of_ble_eq_true rfl) ?_
      show V E _ (wdX E.G a0 S0) 60 [(0, .ref (a0 0)), (1, .int p1), (2, .int p2), (3, .int v3), (4, .int v4), (5, .int v5), (6, .int v6)] [.int q5]
      refine V_pb C hn [(.iload 6, 2), (.aload_n 0, 1)] (pc' := 63) (ls' := [(0, .ref (a0 0)), (1, .int p1), (2, .int p2), (3, .int v3), (4, .int v4), (5, .int v5), (6, .int v6)]) (st' := [.ref (a0 0), .int v6, .int q5]) (decB_ok (by decide +kernel)) rfl rfl ?_
      refine V_get C (v := .ref (a0 4)) (by decide +kernel) 0 0 fk_RX4_12 rfl rfl ?_
      refine V_get C (v := .int (h_fan (x_now S0))) (by decide +kernel) 4 6 fk_RX4_256 rfl rfl ?_
      refine V_ic_eq C (off := 7) (tgt := 76) (by decide +kernel) (by decide) h (fun _ h => ?_) (fun _ h => ?_)
      · refine V_pb C hn [(.iconst 0, 1)] (pc' := 77) (ls' := [(0, .ref (a0 0)), (1, .int p1), (2, .int p2), (3, .int v3), (4, .int v4), (5, .int v5), (6, .int v6)]) (st' := [.int (0 : Int32), .int q5]) (decB_ok (by decide +kernel)) rfl rfl ?_
        refine V_sub (ls' := [(0, .ref (a0 0)), (1, .int p1), (2, .int p2), (3, .int v3), (4, .int v4), (5, .int v5), (6, .int v6)]) rfl ?_
        exact cfX4_setting_j77 C hn (k31 := k31) (hk31) (k41 := (fun v3 v4 v5 v6 S0 => fX4_setting_L41 k31 p1 p2 n v3 v4 v5 v6 S0)) (fun v3 v4 v5 v6 S0 h => ih v3 v4 v5 v6 S0 h) h
      · refine V_pb C hn [(.iconst 1, 1)] (pc' := 73) (ls' := [(0, .ref (a0 0)), (1, .int p1), (2, .int p2), (3, .int v3), (4, .int v4), (5, .int v5), (6, .int v6)]) (st' := [.int (1 : Int32), .int q5]) (decB_ok (by decide +kernel)) rfl rfl ?_
        refine V_goto C (off := 4) (tgt := 77) (by decide +kernel) (by decide) ?_
        refine V_sub (ls' := [(0, .ref (a0 0)), (1, .int p1), (2, .int p2), (3, .int v3), (4, .int v4), (5, .int v5), (6, .int v6)]) rfl ?_
        exact cfX4_setting_j77 C hn (k31 := k31) (hk31) (k41 := (fun v3 v4 v5 v6 S0 => fX4_setting_L41 k31 p1 p2 n v3 v4 v5 v6 S0)) (fun v3 v4 v5 v6 S0 h => ih v3 v4 v5 v6 S0 h) h
set_option maxRecDepth 100000 in
set_option maxHeartbeats 400000 in
theorem cfX4_setting_L31 {E : VE} (C : Ctx E cX4_setting RX4 5 (some .int)) (hn : E.nL = 8) {a0 : Nat → Nat} {p1 : Int32} {p2 : Int32} {out : Int32 × XT} : ∀ (n : Nat) (v3 : Int32) (v4 : Int32) (v5 : Int32) (S0 : XT), fX4_setting_L31 p1 p2 n v3 v4 v5 S0 = some out → V E (QR E (some (.int out.1)) (wdX E.G a0 out.2)) (wdX E.G a0 S0) 31 [(0, .ref (a0 0)), (1, .int p1), (2, .int p2), (3, .int v3), (4, .int v4), (5, .int v5)] [] := by
  intro n
  induction n with
  | zero =>
    intro v3 v4 v5 S0 h
    cases h
  | succ n ih =>
    intro v3 v4 v5 S0 h
    unfold fX4_setting_L31 at h
    refine V_pb C hn [(.iload 5, 2), (.bipush 16, 2)] (pc' := 35) (ls' := [(0, .ref (a0 0)), (1, .int p1), (2, .int p2), (3, .int v3), (4, .int v4), (5, .int v5)]) (st' := [.int (16 : Int32), .int v5]) (decB_ok (by decide +kernel)) rfl rfl ?_
    refine V_ic_ge C (off := 106) (tgt := 141) (by decide +kernel) (by decide) h (fun _ h => ?_) (fun _ h => ?_)
    · refine V_sub (ls' := [(2, .int p2), (3, .int v3), (4, .int v4)]) rfl ?_
      exact cfX4_setting_j141 C hn h
    · refine V_pb C hn [(.iconst 0, 1), (.istore 6, 2)] (pc' := 41) (ls' := [(0, .ref (a0 0)), (1, .int p1), (2, .int p2), (3, .int v3), (4, .int v4), (5, .int v5), (6, .int (0 : Int32))]) (st' := []) (decB_ok (by decide +kernel)) rfl rfl ?_
      refine V_sub (ls' := [(0, .ref (a0 0)), (1, .int p1), (2, .int p2), (3, .int v3), (4, .int v4), (5, .int v5), (6, .int (0 : Int32))]) rfl ?_
      exact cfX4_setting_L41 C hn (k31 := (fun v3 v4 v5 S0 => fX4_setting_L31 p1 p2 n v3 v4 v5 S0)) (fun v3 v4 v5 S0 h => ih v3 v4 v5 S0 h) FU _ _ _ _ _ h
set_option maxRecDepth 100000 in
set_option maxHeartbeats 400000 in
theorem cfX4_setting {l : Launch} {G : GG} (a0 : Nat → Nat) {p1 : Int32} {p2 : Int32} {S0 : XT} {out : Int32 × XT} (h : fX4_setting p1 p2 S0 = some out) : Con l G 5 yX4_setting cX4_setting 8 (some .int) [.ref (a0 0), .int p1, .int p2] (wdX G a0 S0) (some (.int out.1)) (wdX G a0 out.2) := by
  refine Con_of (by decide +kernel) (Nat.le_of_ble_eq_true rfl) (fun E hl hG hn C => ?_)
  subst hl
  subst hG
  have C : Ctx E cX4_setting RX4 5 (some .int) := C
  show V E _ _ 0 [(0, .ref (a0 0)), (1, .int p1), (2, .int p2)] []
  unfold fX4_setting at h
  refine V_pb C hn [(.iload_n 1, 1)] (pc' := 1) (ls' := [(0, .ref (a0 0)), (1, .int p1), (2, .int p2)]) (st' := [.int p1]) (decB_ok (by decide +kernel)) rfl rfl ?_
  obtain ⟨q1, h2, h⟩ := bnd h
  refine V_callSp C (As := [.int p1]) (rest := []) (by decide +kernel) ok_yX4_isTime mk_RX4_194 (cfX4_isTime (l := E.l) (G := E.G) h2) [] rfl rfl rfl rfl (Nat.le_of_ble_eq_true rfl) (Nat.le_of_ble_eq_true rfl) (Nat.le_of_ble_eq_true rfl) ?_
  show V E _ (wdX E.G a0 S0) 4 [(0, .ref (a0 0)), (1, .int p1), (2, .int p2)] [.int q1]
  refine V_if_eq C (off := 12) (tgt := 16) (by decide +kernel) (by decide) h (fun _ h => ?_) (fun _ h => ?_)
  · refine V_sub (ls' := [(0, .ref (a0 0))]) rfl ?_
    exact cfX4_setting_j16 C hn h
  · refine V_pb C hn [(.iload_n 2, 1)] (pc' := 8) (ls' := [(0, .ref (a0 0)), (1, .int p1), (2, .int p2)]) (st' := [.int p2]) (decB_ok (by decide +kernel)) rfl rfl ?_
    refine V_if_lt C (off := 8) (tgt := 16) (by decide +kernel) (by decide) h (fun _ h => ?_) (fun _ h => ?_)
    · refine V_sub (ls' := [(0, .ref (a0 0))]) rfl ?_
      exact cfX4_setting_j16 C hn h
    · refine V_pb C hn [(.iload_n 2, 1), (.iconst 1, 1)] (pc' := 13) (ls' := [(0, .ref (a0 0)), (1, .int p1), (2, .int p2)]) (st' := [.int (1 : Int32), .int p2]) (decB_ok (by decide +kernel)) rfl rfl ?_
      refine V_ic_le C (off := 10) (tgt := 23) (by decide +kernel) (by decide) h (fun _ h => ?_) (fun _ h => ?_)
      · refine V_pb C hn [(.iconst (-1), 1), (.istore_n 3, 1), (.iconst (-1), 1), (.istore 4, 2), (.iconst 0, 1), (.istore 5, 2)] (pc' := 31) (ls' := [(0, .ref (a0 0)), (1, .int p1), (2, .int p2), (3, .int (cI (-1))), (4, .int (cI (-1))), (5, .int (0 : Int32))]) (st' := []) (decB_ok (by decide +kernel)) rfl rfl ?_
        refine V_sub (ls' := [(0, .ref (a0 0)), (1, .int p1), (2, .int p2), (3, .int (cI (-1))), (4, .int (cI (-1))), (5, .int (0 : Int32))]) rfl ?_
        exact cfX4_setting_L31 C hn FU _ _ _ _ h
      · refine V_sub (ls' := [(0, .ref (a0 0))]) rfl ?_
        exact cfX4_setting_j16 C hn h
set_option maxRecDepth 100000 in
set_option maxHeartbeats 400000 in
theorem cfX4_many_L27 {E : VE} (C : Ctx E cX4_many RX4 5 (some .int)) (hn : E.nL = 5) {a0 : Nat → Nat} {p1 : Int32} {out : Int32 × XT} {k18 : Int32 → Int32 → XT → Option (Int32 × XT)} (hk18 : ∀ (v2 : Int32) (v3 : Int32) (S0 : XT), k18 v2 v3 S0 = some out → V E (QR E (some (.int out.1)) (wdX E.G a0 out.2)) (wdX E.G a0 S0) 18 [(0, .ref (a0 0)), (1, .int p1), (2, .int v2), (3, .int v3)] []) : ∀ (n : Nat) (v2 : Int32) (v3 : Int32) (v4 : Int32) (S0 : XT), fX4_many_L27 k18 p1 n v2 v3 v4 S0 = some out → V E (QR E (some (.int out.1)) (wdX E.G a0 out.2)) (wdX E.G a0 S0) 27 [(0, .ref (a0 0)), (1, .int p1), (2, .int v2), (3, .int v3), (4, .int v4)] [] := by
  intro n
  induction n with
  | zero =>
    intro v2 v3 v4 S0 h
    cases h
  | succ n ih =>
    intro v2 v3 v4 S0 h
    unfold fX4_many_L27 at h
    refine V_pb C hn [(.iload 4, 2), (.iconst 4, 1)] (pc' := 30) (ls' := [(0, .ref (a0 0)), (1, .int p1), (2, .int v2), (3, .int v3), (4, .int v4)]) (st' := [.int (4 : Int32), .int v4]) (decB_ok (by decide +kernel)) rfl rfl ?_
    refine V_ic_gt C (off := 30) (tgt := 60) (by decide +kernel) (by decide) h (fun _ h => ?_) (fun _ h => ?_)
    · refine V_pb C hn [(.iinc 3 1, 3)] (pc' := 63) (ls' := [(0, .ref (a0 0)), (1, .int p1), (2, .int v2), (3, .int (v3 + (1 : Int32))), (4, .int v4)]) (st' := []) (decB_ok (by decide +kernel)) rfl rfl ?_
      refine V_goto C (off := -45) (tgt := 18) (by decide +kernel) (by decide) ?_
      refine V_sub (ls' := [(0, .ref (a0 0)), (1, .int p1), (2, .int v2), (3, .int (v3 + (1 : Int32)))]) rfl ?_
      exact hk18 _ _ _ h
    · refine V_pb C hn [(.aload_n 0, 1), (.iload_n 3, 1), (.iload 4, 2), (.iload_n 1, 1)] (pc' := 38) (ls' := [(0, .ref (a0 0)), (1, .int p1), (2, .int v2), (3, .int v3), (4, .int v4)]) (st' := [.int p1, .int v4, .int v3, .ref (a0 0)]) (decB_ok (by decide +kernel)) rfl rfl ?_
      obtain ⟨q5, h6, h⟩ := bnd h
      refine V_callV0 C (As := [.int v3, .int v4, .int p1]) (rest := []) (by decide +kernel) ok_yX4_lookAheadBy mk_RX4_259 (cfX4_lookAheadBy (l := E.l) (G := E.G) a0 h6) (q0 := 0) rfl rfl rfl rfl rfl rfl (Nat.le_of_ble_eq_true rfl) (Nat.le_of_ble_eq_true rfl) (Nat.le_of_ble_eq_true rfl) ?_
      show V E _ (wdX E.G a0 q5) 41 [(0, .ref (a0 0)), (1, .int p1), (2, .int v2), (3, .int v3), (4, .int v4)] []
      refine V_pb C hn [(.iload_n 2, 1), (.aload_n 0, 1)] (pc' := 43) (ls' := [(0, .ref (a0 0)), (1, .int p1), (2, .int v2), (3, .int v3), (4, .int v4)]) (st' := [.ref (a0 0), .int v2]) (decB_ok (by decide +kernel)) rfl rfl ?_
      refine V_get C (v := .ref (a0 12)) (by decide +kernel) 0 2 fk_RX4_19 rfl rfl ?_
      obtain ⟨q7, h8, h⟩ := bnd h
      refine V_callVp C (As := []) (rest := [.int v2]) (by decide +kernel) ok_yX1_carries mk_RX4_208 (cfX1_carries (l := E.l) (G := E.G) (fun j => a0 (12 + j)) h8) [12, 13, 14, 15] (q0 := 0) rfl rfl rfl rfl rfl rfl rfl (Nat.le_of_ble_eq_true rfl) (Nat.le_of_ble_eq_true rfl) (Nat.le_of_ble_eq_true rfl) ?_
      show V E _ (wdX E.G a0 q5) 49 [(0, .ref (a0 0)), (1, .int p1), (2, .int v2), (3, .int v3), (4, .int v4)] [.int q7, .int v2]
      obtain ⟨q9, h10, h⟩ := bnd h
      refine V_callSp C (As := [.int q7]) (rest := [.int v2]) (by decide +kernel) ok_yX4_bit mk_RX4_184 (cfX4_bit (l := E.l) (G := E.G) h10) [] rfl rfl rfl rfl (Nat.le_of_ble_eq_true rfl) (Nat.le_of_ble_eq_true rfl) (Nat.le_of_ble_eq_true rfl) ?_
      show V E _ (wdX E.G a0 q5) 52 [(0, .ref (a0 0)), (1, .int p1), (2, .int v2), (3, .int v3), (4, .int v4)] [.int q9, .int v2]
      refine V_pb C hn [(.iadd, 1), (.istore_n 2, 1), (.iinc 4 1, 3)] (pc' := 57) (ls' := [(0, .ref (a0 0)), (1, .int p1), (2, .int (v2 + q9)), (3, .int v3), (4, .int (v4 + (1 : Int32)))]) (st' := []) (decB_ok (by decide +kernel)) rfl rfl ?_
      refine V_goto C (off := -30) (tgt := 27) (by decide +kernel) (by decide) ?_
      refine V_sub (ls' := [(0, .ref (a0 0)), (1, .int p1), (2, .int (v2 + q9)), (3, .int v3), (4, .int (v4 + (1 : Int32)))]) rfl ?_
      exact ih _ _ _ _ h
set_option maxRecDepth 100000 in
set_option maxHeartbeats 400000 in
theorem cfX4_many_L18 {E : VE} (C : Ctx E cX4_many RX4 5 (some .int)) (hn : E.nL = 5) {a0 : Nat → Nat} {p1 : Int32} {out : Int32 × XT} : ∀ (n : Nat) (v2 : Int32) (v3 : Int32) (S0 : XT), fX4_many_L18 p1 n v2 v3 S0 = some out → V E (QR E (some (.int out.1)) (wdX E.G a0 out.2)) (wdX E.G a0 S0) 18 [(0, .ref (a0 0)), (1, .int p1), (2, .int v2), (3, .int v3)] [] := by
  intro n
  induction n with
  | zero =>
    intro v2 v3 S0 h
    cases h
  | succ n ih =>
    intro v2 v3 S0 h
    unfold fX4_many_L18 at h
    refine V_pb C hn [(.iload_n 3, 1), (.bipush 16, 2)] (pc' := 21) (ls' := [(0, .ref (a0 0)), (1, .int p1), (2, .int v2), (3, .int v3)]) (st' := [.int (16 : Int32), .int v3]) (decB_ok (by decide +kernel)) rfl rfl ?_
    refine V_ic_ge C (off := 45) (tgt := 66) (by decide +kernel) (by decide) h (fun _ h => ?_) (fun _ h => ?_)
    · refine V_pb C hn [(.iload_n 2, 1)] (pc' := 67) (ls' := [(0, .ref (a0 0)), (1, .int p1), (2, .int v2), (3, .int v3)]) (st' := [.int v2]) (decB_ok (by decide +kernel)) rfl rfl ?_
      have h := Option.some.inj h
      subst h
      exact V_iret C (by decide +kernel) rfl
    · refine V_pb C hn [(.iconst 0, 1), (.istore 4, 2)] (pc' := 27) (ls' := [(0, .ref (a0 0)), (1, .int p1), (2, .int v2), (3, .int v3), (4, .int (0 : Int32))]) (st' := []) (decB_ok (by decide +kernel)) rfl rfl ?_
      refine V_sub (ls' := [(0, .ref (a0 0)), (1, .int p1), (2, .int v2), (3, .int v3), (4, .int (0 : Int32))]) rfl ?_
      exact cfX4_many_L27 C hn (k18 := (fun v2 v3 S0 => fX4_many_L18 p1 n v2 v3 S0)) (fun v2 v3 S0 h => ih v2 v3 S0 h) FU _ _ _ _ h
set_option maxRecDepth 100000 in
set_option maxHeartbeats 400000 in
theorem cfX4_many {l : Launch} {G : GG} (a0 : Nat → Nat) {p1 : Int32} {S0 : XT} {out : Int32 × XT} (h : fX4_many p1 S0 = some out) : Con l G 5 yX4_many cX4_many 5 (some .int) [.ref (a0 0), .int p1] (wdX G a0 S0) (some (.int out.1)) (wdX G a0 out.2) := by
  refine Con_of (by decide +kernel) (Nat.le_of_ble_eq_true rfl) (fun E hl hG hn C => ?_)
  subst hl
  subst hG
  have C : Ctx E cX4_many RX4 5 (some .int) := C
  show V E _ _ 0 [(0, .ref (a0 0)), (1, .int p1)] []
  unfold fX4_many at h
  refine V_pb C hn [(.iload_n 1, 1)] (pc' := 1) (ls' := [(0, .ref (a0 0)), (1, .int p1)]) (st' := [.int p1]) (decB_ok (by decide +kernel)) rfl rfl ?_
  obtain ⟨q1, h2, h⟩ := bnd h
  refine V_callSp C (As := [.int p1]) (rest := []) (by decide +kernel) ok_yX4_isTime mk_RX4_194 (cfX4_isTime (l := E.l) (G := E.G) h2) [] rfl rfl rfl rfl (Nat.le_of_ble_eq_true rfl) (Nat.le_of_ble_eq_true rfl) (Nat.le_of_ble_eq_true rfl) ?_
  show V E _ (wdX E.G a0 S0) 4 [(0, .ref (a0 0)), (1, .int p1)] [.int q1]
  refine V_if_ne C (off := 10) (tgt := 14) (by decide +kernel) (by decide) h (fun _ h => ?_) (fun _ h => ?_)
  · refine V_pb C hn [(.aload_n 0, 1), (.bipush (-2), 2)] (pc' := 10) (ls' := [(0, .ref (a0 0)), (1, .int p1)]) (st' := [.int (cI (-2)), .ref (a0 0)]) (decB_ok (by decide +kernel)) rfl rfl ?_
    obtain ⟨q3, h4, h⟩ := bnd h
    refine V_callV0 C (As := [.int (cI (-2))]) (rest := []) (by decide +kernel) ok_yX4_refuse mk_RX4_57 (cfX4_refuse (l := E.l) (G := E.G) a0 h4) (q0 := 0) rfl rfl rfl rfl rfl rfl (Nat.le_of_ble_eq_true rfl) (Nat.le_of_ble_eq_true rfl) (Nat.le_of_ble_eq_true rfl) ?_
    show V E _ (wdX E.G a0 q3.2) 13 [(0, .ref (a0 0)), (1, .int p1)] [.int q3.1]
    have h := Option.some.inj h
    subst h
    exact V_iret C (by decide +kernel) rfl
  · refine V_pb C hn [(.iconst 0, 1), (.istore_n 2, 1), (.iconst 0, 1), (.istore_n 3, 1)] (pc' := 18) (ls' := [(0, .ref (a0 0)), (1, .int p1), (2, .int (0 : Int32)), (3, .int (0 : Int32))]) (st' := []) (decB_ok (by decide +kernel)) rfl rfl ?_
    refine V_sub (ls' := [(0, .ref (a0 0)), (1, .int p1), (2, .int (0 : Int32)), (3, .int (0 : Int32))]) rfl ?_
    exact cfX4_many_L18 C hn FU _ _ _ h
set_option maxRecDepth 100000 in
set_option maxHeartbeats 400000 in
theorem cfX4_which_j136 {E : VE} (C : Ctx E cX4_which RX4 5 (some .int)) (hn : E.nL = 9) {a0 : Nat → Nat} {p1 : Int32} {p2 : Int32} {p3 : Int32} {v5 : Int32} {v6 : Int32} {S0 : XT} {out : Int32 × XT} (h : fX4_which_j136 p1 p2 p3 v5 v6 S0 = some out) : V E (QR E (some (.int out.1)) (wdX E.G a0 out.2)) (wdX E.G a0 S0) 136 [(3, .int p3), (5, .int v5), (6, .int v6)] [] := by
  unfold fX4_which_j136 at h
  refine V_pb C hn [(.iload_n 3, 1)] (pc' := 137) (ls' := [(3, .int p3), (5, .int v5), (6, .int v6)]) (st' := [.int p3]) (decB_ok (by decide +kernel)) rfl rfl ?_
  refine V_if_ne C (off := 8) (tgt := 145) (by decide +kernel) (by decide) h (fun _ h => ?_) (fun _ h => ?_)
  · refine V_pb C hn [(.iload 5, 2)] (pc' := 142) (ls' := [(3, .int p3), (5, .int v5), (6, .int v6)]) (st' := [.int v5]) (decB_ok (by decide +kernel)) rfl rfl ?_
    refine V_goto C (off := 5) (tgt := 147) (by decide +kernel) (by decide) ?_
    have h := Option.some.inj h
    subst h
    exact V_iret C (by decide +kernel) rfl
  · refine V_pb C hn [(.iload 6, 2)] (pc' := 147) (ls' := [(3, .int p3), (5, .int v5), (6, .int v6)]) (st' := [.int v6]) (decB_ok (by decide +kernel)) rfl rfl ?_
    have h := Option.some.inj h
    subst h
    exact V_iret C (by decide +kernel) rfl
set_option maxRecDepth 100000 in
set_option maxHeartbeats 400000 in
theorem cfX4_which_j124 {E : VE} (C : Ctx E cX4_which RX4 5 (some .int)) (hn : E.nL = 9) {a0 : Nat → Nat} {p1 : Int32} {p2 : Int32} {p3 : Int32} {v5 : Int32} {v6 : Int32} {v7 : Int32} {v8 : Int32} {S0 : XT} {out : Int32 × XT} {k56 : Int32 → Int32 → Int32 → XT → Option (Int32 × XT)} (hk56 : ∀ (v5 : Int32) (v6 : Int32) (v7 : Int32) (S0 : XT), k56 v5 v6 v7 S0 = some out → V E (QR E (some (.int out.1)) (wdX E.G a0 out.2)) (wdX E.G a0 S0) 56 [(0, .ref (a0 0)), (1, .int p1), (2, .int p2), (3, .int p3), (5, .int v5), (6, .int v6), (7, .int v7)] []) {k66 : Int32 → Int32 → Int32 → Int32 → XT → Option (Int32 × XT)} (hk66 : ∀ (v5 : Int32) (v6 : Int32) (v7 : Int32) (v8 : Int32) (S0 : XT), k66 v5 v6 v7 v8 S0 = some out → V E (QR E (some (.int out.1)) (wdX E.G a0 out.2)) (wdX E.G a0 S0) 66 [(0, .ref (a0 0)), (1, .int p1), (2, .int p2), (3, .int p3), (5, .int v5), (6, .int v6), (7, .int v7), (8, .int v8)] []) (h : fX4_which_j124 k56 k66 p1 p2 p3 v5 v6 v7 v8 S0 = some out) : V E (QR E (some (.int out.1)) (wdX E.G a0 out.2)) (wdX E.G a0 S0) 124 [(0, .ref (a0 0)), (1, .int p1), (2, .int p2), (3, .int p3), (5, .int v5), (6, .int v6), (7, .int v7), (8, .int v8)] [] := by
  unfold fX4_which_j124 at h
  refine V_pb C hn [(.iinc 8 1, 3)] (pc' := 127) (ls' := [(0, .ref (a0 0)), (1, .int p1), (2, .int p2), (3, .int p3), (5, .int v5), (6, .int v6), (7, .int v7), (8, .int (v8 + (1 : Int32)))]) (st' := []) (decB_ok (by decide +kernel)) rfl rfl ?_
  refine V_goto C (off := -61) (tgt := 66) (by decide +kernel) (by decide) ?_
  refine V_sub (ls' := [(0, .ref (a0 0)), (1, .int p1), (2, .int p2), (3, .int p3), (5, .int v5), (6, .int v6), (7, .int v7), (8, .int (v8 + (1 : Int32)))]) rfl ?_
  exact hk66 _ _ _ _ _ h
set_option maxRecDepth 100000 in
set_option maxHeartbeats 400000 in
theorem cfX4_which_j122 {E : VE} (C : Ctx E cX4_which RX4 5 (some .int)) (hn : E.nL = 9) {a0 : Nat → Nat} {p1 : Int32} {p2 : Int32} {p3 : Int32} {v5 : Int32} {v7 : Int32} {v8 : Int32} {s0 : Int32} {S0 : XT} {out : Int32 × XT} {k56 : Int32 → Int32 → Int32 → XT → Option (Int32 × XT)} (hk56 : ∀ (v5 : Int32) (v6 : Int32) (v7 : Int32) (S0 : XT), k56 v5 v6 v7 S0 = some out → V E (QR E (some (.int out.1)) (wdX E.G a0 out.2)) (wdX E.G a0 S0) 56 [(0, .ref (a0 0)), (1, .int p1), (2, .int p2), (3, .int p3), (5, .int v5), (6, .int v6), (7, .int v7)] []) {k66 : Int32 → Int32 → Int32 → Int32 → XT → Option (Int32 × XT)} (hk66 : ∀ (v5 : Int32) (v6 : Int32) (v7 : Int32) (v8 : Int32) (S0 : XT), k66 v5 v6 v7 v8 S0 = some out → V E (QR E (some (.int out.1)) (wdX E.G a0 out.2)) (wdX E.G a0 S0) 66 [(0, .ref (a0 0)), (1, .int p1), (2, .int p2), (3, .int p3), (5, .int v5), (6, .int v6), (7, .int v7), (8, .int v8)] []) (h : fX4_which_j122 k56 k66 p1 p2 p3 v5 v7 v8 s0 S0 = some out) : V E (QR E (some (.int out.1)) (wdX E.G a0 out.2)) (wdX E.G a0 S0) 122 [(0, .ref (a0 0)), (1, .int p1), (2, .int p2), (3, .int p3), (5, .int v5), (7, .int v7), (8, .int v8)] [.int s0] := by
  unfold fX4_which_j122 at h
  refine V_pb C hn [(.istore 6, 2)] (pc' := 124) (ls' := [(0, .ref (a0 0)), (1, .int p1), (2, .int p2), (3, .int p3), (5, .int v5), (6, .int s0), (7, .int v7), (8, .int v8)]) (st' := []) (decB_ok (by decide +kernel)) rfl rfl ?_
  refine V_sub (ls' := [(0, .ref (a0 0)), (1, .int p1), (2, .int p2), (3, .int p3), (5, .int v5), (6, .int s0), (7, .int v7), (8, .int v8)]) rfl ?_
  exact cfX4_which_j124 C hn (k56 := k56) (hk56) (k66 := k66) (hk66) h
set_option maxRecDepth 100000 in
set_option maxHeartbeats 400000 in
theorem cfX4_which_L66 {E : VE} (C : Ctx E cX4_which RX4 5 (some .int)) (hn : E.nL = 9) {a0 : Nat → Nat} {p1 : Int32} {p2 : Int32} {p3 : Int32} {out : Int32 × XT} {k56 : Int32 → Int32 → Int32 → XT → Option (Int32 × XT)} (hk56 : ∀ (v5 : Int32) (v6 : Int32) (v7 : Int32) (S0 : XT), k56 v5 v6 v7 S0 = some out → V E (QR E (some (.int out.1)) (wdX E.G a0 out.2)) (wdX E.G a0 S0) 56 [(0, .ref (a0 0)), (1, .int p1), (2, .int p2), (3, .int p3), (5, .int v5), (6, .int v6), (7, .int v7)] []) : ∀ (n : Nat) (v5 : Int32) (v6 : Int32) (v7 : Int32) (v8 : Int32) (S0 : XT), fX4_which_L66 k56 p1 p2 p3 n v5 v6 v7 v8 S0 = some out → V E (QR E (some (.int out.1)) (wdX E.G a0 out.2)) (wdX E.G a0 S0) 66 [(0, .ref (a0 0)), (1, .int p1), (2, .int p2), (3, .int p3), (5, .int v5), (6, .int v6), (7, .int v7), (8, .int v8)] [] := by
  intro n
  induction n with
  | zero =>
    intro v5 v6 v7 v8 S0 h
    cases h
  | succ n ih =>
    intro v5 v6 v7 v8 S0 h
    unfold fX4_which_L66 at h
    refine V_pb C hn [(.iload 8, 2), (.iconst 4, 1)] (pc' := 69) (ls' := [(0, .ref (a0 0)), (1, .int p1), (2, .int p2), (3, .int p3), (5, .int v5), (6, .int v6), (7, .int v7), (8, .int v8)]) (st' := [.int (4 : Int32), .int v8]) (decB_ok (by decide +kernel)) rfl rfl ?_
    refine V_ic_gt C (off := 61) (tgt := 130) (by decide +kernel) (by decide) h (fun _ h => ?_) (fun _ h => ?_)
    · refine V_pb C hn [(.iinc 7 1, 3)] (pc' := 133) (ls' := [(0, .ref (a0 0)), (1, .int p1), (2, .int p2), (3, .int p3), (5, .int v5), (6, .int v6), (7, .int (v7 + (1 : Int32))), (8, .int v8)]) (st' := []) (decB_ok (by decide +kernel)) rfl rfl ?_
      refine V_goto C (off := -77) (tgt := 56) (by decide +kernel) (by decide) ?_
      refine V_sub (ls' := [(0, .ref (a0 0)), (1, .int p1), (2, .int p2), (3, .int p3), (5, .int v5), (6, .int v6), (7, .int (v7 + (1 : Int32)))]) rfl ?_
      exact hk56 _ _ _ _ h
    · refine V_pb C hn [(.aload_n 0, 1), (.iload 7, 2), (.iload 8, 2), (.iload_n 2, 1)] (pc' := 78) (ls' := [(0, .ref (a0 0)), (1, .int p1), (2, .int p2), (3, .int p3), (5, .int v5), (6, .int v6), (7, .int v7), (8, .int v8)]) (st' := [.int p2, .int v8, .int v7, .ref (a0 0)]) (decB_ok (by decide +kernel)) rfl rfl ?_
      obtain ⟨q5, h6, h⟩ := bnd h
      refine V_callV0 C (As := [.int v7, .int v8, .int p2]) (rest := []) (by decide +kernel) ok_yX4_lookAheadBy mk_RX4_259 (cfX4_lookAheadBy (l := E.l) (G := E.G) a0 h6) (q0 := 0) rfl rfl rfl rfl rfl rfl (Nat.le_of_ble_eq_true rfl) (Nat.le_of_ble_eq_true rfl) (Nat.le_of_ble_eq_true rfl) ?_
      show V E _ (wdX E.G a0 q5) 81 [(0, .ref (a0 0)), (1, .int p1), (2, .int p2), (3, .int p3), (5, .int v5), (6, .int v6), (7, .int v7), (8, .int v8)] []
      refine V_pb C hn [(.aload_n 0, 1)] (pc' := 82) (ls' := [(0, .ref (a0 0)), (1, .int p1), (2, .int p2), (3, .int p3), (5, .int v5), (6, .int v6), (7, .int v7), (8, .int v8)]) (st' := [.ref (a0 0)]) (decB_ok (by decide +kernel)) rfl rfl ?_
      refine V_get C (v := .ref (a0 12)) (by decide +kernel) 0 2 fk_RX4_19 rfl rfl ?_
      refine V_pb C hn [(.aload_n 0, 1)] (pc' := 86) (ls' := [(0, .ref (a0 0)), (1, .int p1), (2, .int p2), (3, .int p3), (5, .int v5), (6, .int v6), (7, .int v7), (8, .int v8)]) (st' := [.ref (a0 0), .ref (a0 12)]) (decB_ok (by decide +kernel)) rfl rfl ?_
      refine V_get C (v := .ref (a0 3)) (by decide +kernel) 0 4 fk_RX4_24 rfl rfl ?_
      refine V_pb C hn [(.iload_n 1, 1)] (pc' := 90) (ls' := [(0, .ref (a0 0)), (1, .int p1), (2, .int p2), (3, .int p3), (5, .int v5), (6, .int v6), (7, .int v7), (8, .int v8)]) (st' := [.int p1, .ref (a0 3), .ref (a0 12)]) (decB_ok (by decide +kernel)) rfl rfl ?_
      refine V_aald3 C (b := a0 (36 + 2 * ix p1)) (by decide +kernel) 3 3 rfl rfl h rfl (fun hf7 h => ?_)
      refine V_get C (v := .ref (a0 (36 + 2 * ix p1 + 1))) (by decide +kernel) (36 + 2 * ix p1) 4 fk_RX4_72 (fg_X_sh_0 (inb_lt hf7)) rfl ?_
      obtain ⟨q8, h9, h⟩ := bnd h
      refine V_callVp C (As := [.ref (a0 (36 + 2 * ix p1 + 1))]) (rest := []) (by decide +kernel) ok_yX1_standsAsTold mk_RX4_262 (cfX1_standsAsTold (l := E.l) (G := E.G) (fun j => a0 (12 + j)) (fun j => a0 (36 + 2 * ix p1 + 1 + j)) h9) [12, 13, 14, 15, (36 + 2 * ix p1 + 1)] (q0 := 0) rfl (fcm_Hall_L40__trial_sh__X (inb_lt hf7)) (fnm_Hall_L40__trial_sh__X hf7) rfl rfl rfl rfl (Nat.le_of_ble_eq_true rfl) (Nat.le_of_ble_eq_true rfl) (Nat.le_of_ble_eq_true rfl) ?_
      show V E _ (wdX E.G a0 q5) 97 [(0, .ref (a0 0)), (1, .int p1), (2, .int p2), (3, .int p3), (5, .int v5), (6, .int v6), (7, .int v7), (8, .int v8)] [.int q8]
      refine V_if_eq C (off := 27) (tgt := 124) (by decide +kernel) (by decide) h (fun _ h => ?_) (fun _ h => ?_)
      · refine V_sub (ls' := [(0, .ref (a0 0)), (1, .int p1), (2, .int p2), (3, .int p3), (5, .int v5), (6, .int v6), (7, .int v7), (8, .int v8)]) rfl ?_
        exact cfX4_which_j124 C hn (k56 := k56) (hk56) (k66 := (fun v5 v6 v7 v8 S0 => fX4_which_L66 k56 p1 p2 p3 n v5 v6 v7 v8 S0)) (fun v5 v6 v7 v8 S0 h => ih v5 v6 v7 v8 S0 h) h
      · refine V_pb C hn [(.iinc 5 1, 3), (.iload 6, 2), (.iconst (-1), 1)] (pc' := 106) (ls' := [(0, .ref (a0 0)), (1, .int p1), (2, .int p2), (3, .int p3), (5, .int (v5 + (1 : Int32))), (6, .int v6), (7, .int v7), (8, .int v8)]) (st' := [.int (cI (-1)), .int v6]) (decB_ok (by decide +kernel)) rfl rfl ?_
        refine V_ic_ne C (off := 14) (tgt := 120) (by decide +kernel) (by decide) h (fun _ h => ?_) (fun _ h => ?_)
        · refine V_pb C hn [(.bipush 10, 2), (.iload 7, 2), (.imul, 1), (.iload 8, 2), (.iadd, 1)] (pc' := 117) (ls' := [(0, .ref (a0 0)), (1, .int p1), (2, .int p2), (3, .int p3), (5, .int (v5 + (1 : Int32))), (6, .int v6), (7, .int v7), (8, .int v8)]) (st' := [.int (((10 : Int32) * v7) + v8)]) (decB_ok (by decide +kernel)) rfl rfl ?_
          refine V_goto C (off := 5) (tgt := 122) (by decide +kernel) (by decide) ?_
          refine V_sub (ls' := [(0, .ref (a0 0)), (1, .int p1), (2, .int p2), (3, .int p3), (5, .int (v5 + (1 : Int32))), (7, .int v7), (8, .int v8)]) rfl ?_
          exact cfX4_which_j122 C hn (k56 := k56) (hk56) (k66 := (fun v5 v6 v7 v8 S0 => fX4_which_L66 k56 p1 p2 p3 n v5 v6 v7 v8 S0)) (fun v5 v6 v7 v8 S0 h => ih v5 v6 v7 v8 S0 h) h
        · refine V_pb C hn [(.iload 6, 2)] (pc' := 122) (ls' := [(0, .ref (a0 0)), (1, .int p1), (2, .int p2), (3, .int p3), (5, .int (v5 + (1 : Int32))), (6, .int v6), (7, .int v7), (8, .int v8)]) (st' := [.int v6]) (decB_ok (by decide +kernel)) rfl rfl ?_
          refine V_sub (ls' := [(0, .ref (a0 0)), (1, .int p1), (2, .int p2), (3, .int p3), (5, .int (v5 + (1 : Int32))), (7, .int v7), (8, .int v8)]) rfl ?_
          exact cfX4_which_j122 C hn (k56 := k56) (hk56) (k66 := (fun v5 v6 v7 v8 S0 => fX4_which_L66 k56 p1 p2 p3 n v5 v6 v7 v8 S0)) (fun v5 v6 v7 v8 S0 h => ih v5 v6 v7 v8 S0 h) h
set_option maxRecDepth 100000 in
set_option maxHeartbeats 400000 in
theorem cfX4_which_L56 {E : VE} (C : Ctx E cX4_which RX4 5 (some .int)) (hn : E.nL = 9) {a0 : Nat → Nat} {p1 : Int32} {p2 : Int32} {p3 : Int32} {out : Int32 × XT} : ∀ (n : Nat) (v5 : Int32) (v6 : Int32) (v7 : Int32) (S0 : XT), fX4_which_L56 p1 p2 p3 n v5 v6 v7 S0 = some out → V E (QR E (some (.int out.1)) (wdX E.G a0 out.2)) (wdX E.G a0 S0) 56 [(0, .ref (a0 0)), (1, .int p1), (2, .int p2), (3, .int p3), (5, .int v5), (6, .int v6), (7, .int v7)] [] := by
  intro n
  induction n with
  | zero =>
    intro v5 v6 v7 S0 h
    cases h
  | succ n ih =>
    intro v5 v6 v7 S0 h
    unfold fX4_which_L56 at h
    refine V_pb C hn [(.iload 7, 2), (.bipush 16, 2)] (pc' := 60) (ls' := [(0, .ref (a0 0)), (1, .int p1), (2, .int p2), (3, .int p3), (5, .int v5), (6, .int v6), (7, .int v7)]) (st' := [.int (16 : Int32), .int v7]) (decB_ok (by decide +kernel)) rfl rfl ?_
    refine V_ic_ge C (off := 76) (tgt := 136) (by decide +kernel) (by decide) h (fun _ h => ?_) (fun _ h => ?_)
    · refine V_sub (ls' := [(3, .int p3), (5, .int v5), (6, .int v6)]) rfl ?_
      exact cfX4_which_j136 C hn h
    · refine V_pb C hn [(.iconst 0, 1), (.istore 8, 2)] (pc' := 66) (ls' := [(0, .ref (a0 0)), (1, .int p1), (2, .int p2), (3, .int p3), (5, .int v5), (6, .int v6), (7, .int v7), (8, .int (0 : Int32))]) (st' := []) (decB_ok (by decide +kernel)) rfl rfl ?_
      refine V_sub (ls' := [(0, .ref (a0 0)), (1, .int p1), (2, .int p2), (3, .int p3), (5, .int v5), (6, .int v6), (7, .int v7), (8, .int (0 : Int32))]) rfl ?_
      exact cfX4_which_L66 C hn (k56 := (fun v5 v6 v7 S0 => fX4_which_L56 p1 p2 p3 n v5 v6 v7 S0)) (fun v5 v6 v7 S0 h => ih v5 v6 v7 S0 h) FU _ _ _ _ _ h
set_option maxRecDepth 100000 in
set_option maxHeartbeats 400000 in
theorem cfX4_which_j23 {E : VE} (C : Ctx E cX4_which RX4 5 (some .int)) (hn : E.nL = 9) {a0 : Nat → Nat} {p1 : Int32} {p2 : Int32} {p3 : Int32} {s0 : Int32} {s1 : Int32} {S0 : XT} {out : Int32 × XT} (h : fX4_which_j23 p1 p2 p3 s0 s1 S0 = some out) : V E (QR E (some (.int out.1)) (wdX E.G a0 out.2)) (wdX E.G a0 S0) 23 [(0, .ref (a0 0)), (1, .int p1), (2, .int p2), (3, .int p3)] [.int s0, .int s1, .ref (a0 0)] := by
  unfold fX4_which_j23 at h
  refine V_pb C hn [(.aload_n 0, 1)] (pc' := 24) (ls' := [(0, .ref (a0 0)), (1, .int p1), (2, .int p2), (3, .int p3)]) (st' := [.ref (a0 0), .int s0, .int s1, .ref (a0 0)]) (decB_ok (by decide +kernel)) rfl rfl ?_
  refine V_get C (v := .ref (a0 4)) (by decide +kernel) 0 0 fk_RX4_12 rfl rfl ?_
  refine V_get C (v := .int (h_count (x_now S0))) (by decide +kernel) 4 1 fk_RX4_146 rfl rfl ?_
  obtain ⟨q3, h4, h⟩ := bnd h
  refine V_callV0 C (As := [.int s1, .int s0, .int (h_count (x_now S0))]) (rest := []) (by decide +kernel) ok_yX4_rowRefusal mk_RX4_65 (cfX4_rowRefusal (l := E.l) (G := E.G) a0 h4) (q0 := 0) rfl rfl rfl rfl rfl rfl (Nat.le_of_ble_eq_true rfl) (Nat.le_of_ble_eq_true rfl) (Nat.le_of_ble_eq_true rfl) ?_
  show V E _ (wdX E.G a0 S0) 33 [(0, .ref (a0 0)), (1, .int p1), (2, .int p2), (3, .int p3)] [.int q3]
  refine V_pb C hn [(.istore 4, 2), (.iload 4, 2)] (pc' := 37) (ls' := [(0, .ref (a0 0)), (1, .int p1), (2, .int p2), (3, .int p3), (4, .int q3)]) (st' := [.int q3]) (decB_ok (by decide +kernel)) rfl rfl ?_
  refine V_if_eq C (off := 10) (tgt := 47) (by decide +kernel) (by decide) h (fun _ h => ?_) (fun _ h => ?_)
  · refine V_pb C hn [(.iconst 0, 1), (.istore 5, 2), (.iconst (-1), 1), (.istore 6, 2), (.iconst 0, 1), (.istore 7, 2)] (pc' := 56) (ls' := [(0, .ref (a0 0)), (1, .int p1), (2, .int p2), (3, .int p3), (4, .int q3), (5, .int (0 : Int32)), (6, .int (cI (-1))), (7, .int (0 : Int32))]) (st' := []) (decB_ok (by decide +kernel)) rfl rfl ?_
    refine V_sub (ls' := [(0, .ref (a0 0)), (1, .int p1), (2, .int p2), (3, .int p3), (5, .int (0 : Int32)), (6, .int (cI (-1))), (7, .int (0 : Int32))]) rfl ?_
    exact cfX4_which_L56 C hn FU _ _ _ _ h
  · refine V_pb C hn [(.aload_n 0, 1), (.iload 4, 2)] (pc' := 43) (ls' := [(0, .ref (a0 0)), (1, .int p1), (2, .int p2), (3, .int p3), (4, .int q3)]) (st' := [.int q3, .ref (a0 0)]) (decB_ok (by decide +kernel)) rfl rfl ?_
    obtain ⟨q10, h11, h⟩ := bnd h
    refine V_callV0 C (As := [.int q3]) (rest := []) (by decide +kernel) ok_yX4_refuse mk_RX4_57 (cfX4_refuse (l := E.l) (G := E.G) a0 h11) (q0 := 0) rfl rfl rfl rfl rfl rfl (Nat.le_of_ble_eq_true rfl) (Nat.le_of_ble_eq_true rfl) (Nat.le_of_ble_eq_true rfl) ?_
    show V E _ (wdX E.G a0 q10.2) 46 [(0, .ref (a0 0)), (1, .int p1), (2, .int p2), (3, .int p3), (4, .int q3)] [.int q10.1]
    have h := Option.some.inj h
    subst h
    exact V_iret C (by decide +kernel) rfl
set_option maxRecDepth 100000 in
set_option maxHeartbeats 400000 in
theorem cfX4_which_j22 {E : VE} (C : Ctx E cX4_which RX4 5 (some .int)) (hn : E.nL = 9) {a0 : Nat → Nat} {p1 : Int32} {p2 : Int32} {p3 : Int32} {s0 : Int32} {S0 : XT} {out : Int32 × XT} (h : fX4_which_j22 p1 p2 p3 s0 S0 = some out) : V E (QR E (some (.int out.1)) (wdX E.G a0 out.2)) (wdX E.G a0 S0) 22 [(0, .ref (a0 0)), (1, .int p1), (2, .int p2), (3, .int p3)] [.int s0, .ref (a0 0)] := by
  unfold fX4_which_j22 at h
  refine V_pb C hn [(.iconst 0, 1)] (pc' := 23) (ls' := [(0, .ref (a0 0)), (1, .int p1), (2, .int p2), (3, .int p3)]) (st' := [.int (0 : Int32), .int s0, .ref (a0 0)]) (decB_ok (by decide +kernel)) rfl rfl ?_
  refine V_sub (ls' := [(0, .ref (a0 0)), (1, .int p1), (2, .int p2), (3, .int p3)]) rfl ?_
  exact cfX4_which_j23 C hn h
set_option maxRecDepth 100000 in
set_option maxHeartbeats 400000 in
theorem cfX4_which {l : Launch} {G : GG} (a0 : Nat → Nat) {p1 : Int32} {p2 : Int32} {p3 : Int32} {S0 : XT} {out : Int32 × XT} (h : fX4_which p1 p2 p3 S0 = some out) : Con l G 5 yX4_which cX4_which 9 (some .int) [.ref (a0 0), .int p1, .int p2, .int p3] (wdX G a0 S0) (some (.int out.1)) (wdX G a0 out.2) := by
  refine Con_of (by decide +kernel) (Nat.le_of_ble_eq_true rfl) (fun E hl hG hn C => ?_)
  subst hl
  subst hG
  have C : Ctx E cX4_which RX4 5 (some .int) := C
  show V E _ _ 0 [(0, .ref (a0 0)), (1, .int p1), (2, .int p2), (3, .int p3)] []
  unfold fX4_which at h
  refine V_pb C hn [(.aload_n 0, 1), (.iload_n 1, 1), (.iload_n 2, 1)] (pc' := 3) (ls' := [(0, .ref (a0 0)), (1, .int p1), (2, .int p2), (3, .int p3)]) (st' := [.int p2, .int p1, .ref (a0 0)]) (decB_ok (by decide +kernel)) rfl rfl ?_
  obtain ⟨q1, h2, h⟩ := bnd h
  refine V_callSp C (As := [.int p2]) (rest := [.int p1, .ref (a0 0)]) (by decide +kernel) ok_yX4_isTime mk_RX4_194 (cfX4_isTime (l := E.l) (G := E.G) h2) [] rfl rfl rfl rfl (Nat.le_of_ble_eq_true rfl) (Nat.le_of_ble_eq_true rfl) (Nat.le_of_ble_eq_true rfl) ?_
  show V E _ (wdX E.G a0 S0) 6 [(0, .ref (a0 0)), (1, .int p1), (2, .int p2), (3, .int p3)] [.int q1, .int p1, .ref (a0 0)]
  refine V_if_eq C (off := 16) (tgt := 22) (by decide +kernel) (by decide) h (fun _ h => ?_) (fun _ h => ?_)
  · refine V_sub (ls' := [(0, .ref (a0 0)), (1, .int p1), (2, .int p2), (3, .int p3)]) rfl ?_
    exact cfX4_which_j22 C hn h
  · refine V_pb C hn [(.iload_n 3, 1)] (pc' := 10) (ls' := [(0, .ref (a0 0)), (1, .int p1), (2, .int p2), (3, .int p3)]) (st' := [.int p3, .int p1, .ref (a0 0)]) (decB_ok (by decide +kernel)) rfl rfl ?_
    refine V_if_lt C (off := 12) (tgt := 22) (by decide +kernel) (by decide) h (fun _ h => ?_) (fun _ h => ?_)
    · refine V_sub (ls' := [(0, .ref (a0 0)), (1, .int p1), (2, .int p2), (3, .int p3)]) rfl ?_
      exact cfX4_which_j22 C hn h
    · refine V_pb C hn [(.iload_n 3, 1), (.iconst 1, 1)] (pc' := 15) (ls' := [(0, .ref (a0 0)), (1, .int p1), (2, .int p2), (3, .int p3)]) (st' := [.int (1 : Int32), .int p3, .int p1, .ref (a0 0)]) (decB_ok (by decide +kernel)) rfl rfl ?_
      refine V_ic_gt C (off := 7) (tgt := 22) (by decide +kernel) (by decide) h (fun _ h => ?_) (fun _ h => ?_)
      · refine V_sub (ls' := [(0, .ref (a0 0)), (1, .int p1), (2, .int p2), (3, .int p3)]) rfl ?_
        exact cfX4_which_j22 C hn h
      · refine V_pb C hn [(.iconst 1, 1)] (pc' := 19) (ls' := [(0, .ref (a0 0)), (1, .int p1), (2, .int p2), (3, .int p3)]) (st' := [.int (1 : Int32), .int p1, .ref (a0 0)]) (decB_ok (by decide +kernel)) rfl rfl ?_
        refine V_goto C (off := 4) (tgt := 23) (by decide +kernel) (by decide) ?_
        refine V_sub (ls' := [(0, .ref (a0 0)), (1, .int p1), (2, .int p2), (3, .int p3)]) rfl ?_
        exact cfX4_which_j23 C hn h
set_option maxRecDepth 100000 in
set_option maxHeartbeats 400000 in
theorem cfX4_turned_j23 {E : VE} (C : Ctx E cX4_turned RX4 0 (some .int)) (hn : E.nL = 2) {a0 : Nat → Nat} {p1 : Int32} {S0 : XT} {out : Int32} (h : fX4_turned_j23 p1 S0 = some out) : V E (QR E (some (.int out)) (wdX E.G a0 S0)) (wdX E.G a0 S0) 23 [(0, .ref (a0 0))] [] := by
  unfold fX4_turned_j23 at h
  refine V_pb C hn [(.aload_n 0, 1)] (pc' := 24) (ls' := [(0, .ref (a0 0))]) (st' := [.ref (a0 0)]) (decB_ok (by decide +kernel)) rfl rfl ?_
  refine V_get C (v := .ref (a0 4)) (by decide +kernel) 0 0 fk_RX4_12 rfl rfl ?_
  refine V_get C (v := .int (h_doors (x_now S0))) (by decide +kernel) 4 5 fk_RX4_149 rfl rfl ?_
  have h := Option.some.inj h
  subst h
  exact V_iret C (by decide +kernel) rfl
set_option maxRecDepth 100000 in
set_option maxHeartbeats 400000 in
theorem cfX4_turned {l : Launch} {G : GG} (a0 : Nat → Nat) {p1 : Int32} {S0 : XT} {out : Int32} (h : fX4_turned p1 S0 = some out) : Con l G 0 yX4_turned cX4_turned 2 (some .int) [.ref (a0 0), .int p1] (wdX G a0 S0) (some (.int out)) (wdX G a0 S0) := by
  refine Con_of (by decide +kernel) (Nat.le_of_ble_eq_true rfl) (fun E hl hG hn C => ?_)
  subst hl
  subst hG
  have C : Ctx E cX4_turned RX4 0 (some .int) := C
  show V E _ _ 0 [(0, .ref (a0 0)), (1, .int p1)] []
  unfold fX4_turned at h
  refine V_pb C hn [(.iload_n 1, 1)] (pc' := 1) (ls' := [(0, .ref (a0 0)), (1, .int p1)]) (st' := [.int p1]) (decB_ok (by decide +kernel)) rfl rfl ?_
  refine V_if_lt C (off := 22) (tgt := 23) (by decide +kernel) (by decide) h (fun _ h => ?_) (fun _ h => ?_)
  · refine V_sub (ls' := [(0, .ref (a0 0))]) rfl ?_
    exact cfX4_turned_j23 C hn h
  · refine V_pb C hn [(.iload_n 1, 1), (.iconst 4, 1)] (pc' := 6) (ls' := [(0, .ref (a0 0)), (1, .int p1)]) (st' := [.int (4 : Int32), .int p1]) (decB_ok (by decide +kernel)) rfl rfl ?_
    refine V_ic_ge C (off := 17) (tgt := 23) (by decide +kernel) (by decide) h (fun _ h => ?_) (fun _ h => ?_)
    · refine V_sub (ls' := [(0, .ref (a0 0))]) rfl ?_
      exact cfX4_turned_j23 C hn h
    · refine V_pb C hn [(.aload_n 0, 1)] (pc' := 10) (ls' := [(0, .ref (a0 0)), (1, .int p1)]) (st' := [.ref (a0 0)]) (decB_ok (by decide +kernel)) rfl rfl ?_
      refine V_get C (v := .ref (a0 4)) (by decide +kernel) 0 0 fk_RX4_12 rfl rfl ?_
      refine V_get C (v := .int (h_doors (x_now S0))) (by decide +kernel) 4 5 fk_RX4_149 rfl rfl ?_
      refine V_pb C hn [(.iconst 1, 1), (.iload_n 1, 1), (.ishl, 1), (.ixor, 1)] (pc' := 20) (ls' := [(0, .ref (a0 0)), (1, .int p1)]) (st' := [.int ((h_doors (x_now S0)) ^^^ (jshl (1 : Int32) p1))]) (decB_ok (by decide +kernel)) rfl rfl ?_
      refine V_goto C (off := 10) (tgt := 30) (by decide +kernel) (by decide) ?_
      have h := Option.some.inj h
      subst h
      exact V_iret C (by decide +kernel) rfl
set_option maxRecDepth 100000 in
set_option maxHeartbeats 400000 in
theorem cfX4_leastDoor_j54 {E : VE} (C : Ctx E cX4_leastDoor RX4 5 (some .int)) (hn : E.nL = 7) {a0 : Nat → Nat} {p1 : Int32} {p2 : Int32} {v3 : Int32} {v4 : Int32} {v5 : Int32} {S0 : XT} {out : Int32 × XT} {k9 : Int32 → Int32 → Int32 → XT → Option (Int32 × XT)} (hk9 : ∀ (v3 : Int32) (v4 : Int32) (v5 : Int32) (S0 : XT), k9 v3 v4 v5 S0 = some out → V E (QR E (some (.int out.1)) (wdX E.G a0 out.2)) (wdX E.G a0 S0) 9 [(0, .ref (a0 0)), (1, .int p1), (2, .int p2), (3, .int v3), (4, .int v4), (5, .int v5)] []) (h : fX4_leastDoor_j54 k9 p1 p2 v3 v4 v5 S0 = some out) : V E (QR E (some (.int out.1)) (wdX E.G a0 out.2)) (wdX E.G a0 S0) 54 [(0, .ref (a0 0)), (1, .int p1), (2, .int p2), (3, .int v3), (4, .int v4), (5, .int v5)] [] := by
  unfold fX4_leastDoor_j54 at h
  refine V_pb C hn [(.iinc 5 1, 3)] (pc' := 57) (ls' := [(0, .ref (a0 0)), (1, .int p1), (2, .int p2), (3, .int v3), (4, .int v4), (5, .int (v5 + (1 : Int32)))]) (st' := []) (decB_ok (by decide +kernel)) rfl rfl ?_
  refine V_goto C (off := -48) (tgt := 9) (by decide +kernel) (by decide) ?_
  refine V_sub (ls' := [(0, .ref (a0 0)), (1, .int p1), (2, .int p2), (3, .int v3), (4, .int v4), (5, .int (v5 + (1 : Int32)))]) rfl ?_
  exact hk9 _ _ _ _ h
set_option maxRecDepth 100000 in
set_option maxHeartbeats 400000 in
theorem cfX4_leastDoor_j47 {E : VE} (C : Ctx E cX4_leastDoor RX4 5 (some .int)) (hn : E.nL = 7) {a0 : Nat → Nat} {p1 : Int32} {p2 : Int32} {v5 : Int32} {v6 : Int32} {S0 : XT} {out : Int32 × XT} {k9 : Int32 → Int32 → Int32 → XT → Option (Int32 × XT)} (hk9 : ∀ (v3 : Int32) (v4 : Int32) (v5 : Int32) (S0 : XT), k9 v3 v4 v5 S0 = some out → V E (QR E (some (.int out.1)) (wdX E.G a0 out.2)) (wdX E.G a0 S0) 9 [(0, .ref (a0 0)), (1, .int p1), (2, .int p2), (3, .int v3), (4, .int v4), (5, .int v5)] []) (h : fX4_leastDoor_j47 k9 p1 p2 v5 v6 S0 = some out) : V E (QR E (some (.int out.1)) (wdX E.G a0 out.2)) (wdX E.G a0 S0) 47 [(0, .ref (a0 0)), (1, .int p1), (2, .int p2), (5, .int v5), (6, .int v6)] [] := by
  unfold fX4_leastDoor_j47 at h
  refine V_pb C hn [(.iload 6, 2), (.istore_n 3, 1), (.iload 5, 2), (.istore 4, 2)] (pc' := 54) (ls' := [(0, .ref (a0 0)), (1, .int p1), (2, .int p2), (3, .int v6), (4, .int v5), (5, .int v5), (6, .int v6)]) (st' := []) (decB_ok (by decide +kernel)) rfl rfl ?_
  refine V_sub (ls' := [(0, .ref (a0 0)), (1, .int p1), (2, .int p2), (3, .int v6), (4, .int v5), (5, .int v5)]) rfl ?_
  exact cfX4_leastDoor_j54 C hn (k9 := k9) (hk9) h
set_option maxRecDepth 100000 in
set_option maxHeartbeats 400000 in
theorem cfX4_leastDoor_L9 {E : VE} (C : Ctx E cX4_leastDoor RX4 5 (some .int)) (hn : E.nL = 7) {a0 : Nat → Nat} {p1 : Int32} {p2 : Int32} {out : Int32 × XT} : ∀ (n : Nat) (v3 : Int32) (v4 : Int32) (v5 : Int32) (S0 : XT), fX4_leastDoor_L9 p1 p2 n v3 v4 v5 S0 = some out → V E (QR E (some (.int out.1)) (wdX E.G a0 out.2)) (wdX E.G a0 S0) 9 [(0, .ref (a0 0)), (1, .int p1), (2, .int p2), (3, .int v3), (4, .int v4), (5, .int v5)] [] := by
  intro n
  induction n with
  | zero =>
    intro v3 v4 v5 S0 h
    cases h
  | succ n ih =>
    intro v3 v4 v5 S0 h
    unfold fX4_leastDoor_L9 at h
    refine V_pb C hn [(.iload 5, 2), (.iconst 4, 1)] (pc' := 12) (ls' := [(0, .ref (a0 0)), (1, .int p1), (2, .int p2), (3, .int v3), (4, .int v4), (5, .int v5)]) (st' := [.int (4 : Int32), .int v5]) (decB_ok (by decide +kernel)) rfl rfl ?_
    refine V_ic_gt C (off := 48) (tgt := 60) (by decide +kernel) (by decide) h (fun _ h => ?_) (fun _ h => ?_)
    · refine V_pb C hn [(.iload 4, 2)] (pc' := 62) (ls' := [(0, .ref (a0 0)), (1, .int p1), (2, .int p2), (3, .int v3), (4, .int v4), (5, .int v5)]) (st' := [.int v4]) (decB_ok (by decide +kernel)) rfl rfl ?_
      have h := Option.some.inj h
      subst h
      exact V_iret C (by decide +kernel) rfl
    · refine V_pb C hn [(.aload_n 0, 1), (.aload_n 0, 1), (.iload 5, 2)] (pc' := 19) (ls' := [(0, .ref (a0 0)), (1, .int p1), (2, .int p2), (3, .int v3), (4, .int v4), (5, .int v5)]) (st' := [.int v5, .ref (a0 0), .ref (a0 0)]) (decB_ok (by decide +kernel)) rfl rfl ?_
      obtain ⟨q1, h2, h⟩ := bnd h
      refine V_callV0 C (As := [.int v5]) (rest := [.ref (a0 0)]) (by decide +kernel) ok_yX4_turned mk_RX4_269 (cfX4_turned (l := E.l) (G := E.G) a0 h2) (q0 := 0) rfl rfl rfl rfl rfl rfl (Nat.le_of_ble_eq_true rfl) (Nat.le_of_ble_eq_true rfl) (Nat.le_of_ble_eq_true rfl) ?_
      show V E _ (wdX E.G a0 S0) 22 [(0, .ref (a0 0)), (1, .int p1), (2, .int p2), (3, .int v3), (4, .int v4), (5, .int v5)] [.int q1, .ref (a0 0)]
      refine V_pb C hn [(.iload_n 1, 1), (.iload_n 2, 1)] (pc' := 24) (ls' := [(0, .ref (a0 0)), (1, .int p1), (2, .int p2), (3, .int v3), (4, .int v4), (5, .int v5)]) (st' := [.int p2, .int p1, .int q1, .ref (a0 0)]) (decB_ok (by decide +kernel)) rfl rfl ?_
      obtain ⟨q3, h4, h⟩ := bnd h
      refine V_callV0 C (As := [.int q1, .int p1, .int p2]) (rest := []) (by decide +kernel) ok_yX4_lookAheadBy mk_RX4_259 (cfX4_lookAheadBy (l := E.l) (G := E.G) a0 h4) (q0 := 0) rfl rfl rfl rfl rfl rfl (Nat.le_of_ble_eq_true rfl) (Nat.le_of_ble_eq_true rfl) (Nat.le_of_ble_eq_true rfl) ?_
      show V E _ (wdX E.G a0 q3) 27 [(0, .ref (a0 0)), (1, .int p1), (2, .int p2), (3, .int v3), (4, .int v4), (5, .int v5)] []
      refine V_pb C hn [(.aload_n 0, 1)] (pc' := 28) (ls' := [(0, .ref (a0 0)), (1, .int p1), (2, .int p2), (3, .int v3), (4, .int v4), (5, .int v5)]) (st' := [.ref (a0 0)]) (decB_ok (by decide +kernel)) rfl rfl ?_
      refine V_get C (v := .ref (a0 12)) (by decide +kernel) 0 2 fk_RX4_19 rfl rfl ?_
      obtain ⟨q5, h6, h⟩ := bnd h
      refine V_callVp C (As := []) (rest := []) (by decide +kernel) ok_yX1_litWeight mk_RX4_204 (cfX1_litWeight (l := E.l) (G := E.G) (fun j => a0 (12 + j)) h6) [12, 13, 14, 15] (q0 := 0) rfl rfl rfl rfl rfl rfl rfl (Nat.le_of_ble_eq_true rfl) (Nat.le_of_ble_eq_true rfl) (Nat.le_of_ble_eq_true rfl) ?_
      show V E _ (wdX E.G a0 q3) 34 [(0, .ref (a0 0)), (1, .int p1), (2, .int p2), (3, .int v3), (4, .int v4), (5, .int v5)] [.int q5]
      refine V_pb C hn [(.istore 6, 2), (.iload 5, 2)] (pc' := 38) (ls' := [(0, .ref (a0 0)), (1, .int p1), (2, .int p2), (3, .int v3), (4, .int v4), (5, .int v5), (6, .int q5)]) (st' := [.int v5]) (decB_ok (by decide +kernel)) rfl rfl ?_
      refine V_if_eq C (off := 9) (tgt := 47) (by decide +kernel) (by decide) h (fun _ h => ?_) (fun _ h => ?_)
      · refine V_sub (ls' := [(0, .ref (a0 0)), (1, .int p1), (2, .int p2), (5, .int v5), (6, .int q5)]) rfl ?_
        exact cfX4_leastDoor_j47 C hn (k9 := (fun v3 v4 v5 S0 => fX4_leastDoor_L9 p1 p2 n v3 v4 v5 S0)) (fun v3 v4 v5 S0 h => ih v3 v4 v5 S0 h) h
      · refine V_pb C hn [(.iload 6, 2), (.iload_n 3, 1)] (pc' := 44) (ls' := [(0, .ref (a0 0)), (1, .int p1), (2, .int p2), (3, .int v3), (4, .int v4), (5, .int v5), (6, .int q5)]) (st' := [.int v3, .int q5]) (decB_ok (by decide +kernel)) rfl rfl ?_
        refine V_ic_ge C (off := 10) (tgt := 54) (by decide +kernel) (by decide) h (fun _ h => ?_) (fun _ h => ?_)
        · refine V_sub (ls' := [(0, .ref (a0 0)), (1, .int p1), (2, .int p2), (3, .int v3), (4, .int v4), (5, .int v5)]) rfl ?_
          exact cfX4_leastDoor_j54 C hn (k9 := (fun v3 v4 v5 S0 => fX4_leastDoor_L9 p1 p2 n v3 v4 v5 S0)) (fun v3 v4 v5 S0 h => ih v3 v4 v5 S0 h) h
        · refine V_sub (ls' := [(0, .ref (a0 0)), (1, .int p1), (2, .int p2), (5, .int v5), (6, .int q5)]) rfl ?_
          exact cfX4_leastDoor_j47 C hn (k9 := (fun v3 v4 v5 S0 => fX4_leastDoor_L9 p1 p2 n v3 v4 v5 S0)) (fun v3 v4 v5 S0 h => ih v3 v4 v5 S0 h) h
set_option maxRecDepth 100000 in
set_option maxHeartbeats 400000 in
theorem cfX4_leastDoor {l : Launch} {G : GG} (a0 : Nat → Nat) {p1 : Int32} {p2 : Int32} {S0 : XT} {out : Int32 × XT} (h : fX4_leastDoor p1 p2 S0 = some out) : Con l G 5 yX4_leastDoor cX4_leastDoor 7 (some .int) [.ref (a0 0), .int p1, .int p2] (wdX G a0 S0) (some (.int out.1)) (wdX G a0 out.2) := by
  refine Con_of (by decide +kernel) (Nat.le_of_ble_eq_true rfl) (fun E hl hG hn C => ?_)
  subst hl
  subst hG
  have C : Ctx E cX4_leastDoor RX4 5 (some .int) := C
  show V E _ _ 0 [(0, .ref (a0 0)), (1, .int p1), (2, .int p2)] []
  unfold fX4_leastDoor at h
  refine V_pb C hn [(.bipush 90, 2), (.istore_n 3, 1), (.iconst 0, 1), (.istore 4, 2), (.iconst 0, 1), (.istore 5, 2)] (pc' := 9) (ls' := [(0, .ref (a0 0)), (1, .int p1), (2, .int p2), (3, .int (90 : Int32)), (4, .int (0 : Int32)), (5, .int (0 : Int32))]) (st' := []) (decB_ok (by decide +kernel)) rfl rfl ?_
  refine V_sub (ls' := [(0, .ref (a0 0)), (1, .int p1), (2, .int p2), (3, .int (90 : Int32)), (4, .int (0 : Int32)), (5, .int (0 : Int32))]) rfl ?_
  exact cfX4_leastDoor_L9 C hn FU _ _ _ _ h
set_option maxRecDepth 100000 in
set_option maxHeartbeats 400000 in
theorem cfX4_whips_j16 {E : VE} (C : Ctx E cX4_whips RX4 6 (some .int)) (hn : E.nL = 7) {a0 : Nat → Nat} {p1 : Int32} {p2 : Int32} {S0 : XT} {out : Int32 × XT} (h : fX4_whips_j16 p1 p2 S0 = some out) : V E (QR E (some (.int out.1)) (wdX E.G a0 out.2)) (wdX E.G a0 S0) 16 [(0, .ref (a0 0))] [] := by
  unfold fX4_whips_j16 at h
  refine V_pb C hn [(.aload_n 0, 1), (.bipush (-2), 2)] (pc' := 19) (ls' := [(0, .ref (a0 0))]) (st' := [.int (cI (-2)), .ref (a0 0)]) (decB_ok (by decide +kernel)) rfl rfl ?_
  obtain ⟨q3, h4, h⟩ := bnd h
  refine V_callV0 C (As := [.int (cI (-2))]) (rest := []) (by decide +kernel) ok_yX4_refuse mk_RX4_57 (cfX4_refuse (l := E.l) (G := E.G) a0 h4) (q0 := 0) rfl rfl rfl rfl rfl rfl (Nat.le_of_ble_eq_true rfl) (Nat.le_of_ble_eq_true rfl) (Nat.le_of_ble_eq_true rfl) ?_
  show V E _ (wdX E.G a0 q3.2) 22 [(0, .ref (a0 0))] [.int q3.1]
  have h := Option.some.inj h
  subst h
  exact V_iret C (by decide +kernel) rfl
set_option maxRecDepth 100000 in
set_option maxHeartbeats 400000 in
theorem cfX4_whips_j83 {E : VE} (C : Ctx E cX4_whips RX4 6 (some .int)) (hn : E.nL = 7) {a0 : Nat → Nat} {p1 : Int32} {p2 : Int32} {v3 : Int32} {v4 : Int32} {S0 : XT} {out : Int32 × XT} (h : fX4_whips_j83 p1 p2 v3 v4 S0 = some out) : V E (QR E (some (.int out.1)) (wdX E.G a0 out.2)) (wdX E.G a0 S0) 83 [(2, .int p2), (3, .int v3), (4, .int v4)] [] := by
  unfold fX4_whips_j83 at h
  refine V_pb C hn [(.iload_n 2, 1)] (pc' := 84) (ls' := [(2, .int p2), (3, .int v3), (4, .int v4)]) (st' := [.int p2]) (decB_ok (by decide +kernel)) rfl rfl ?_
  refine V_if_ne C (off := 7) (tgt := 91) (by decide +kernel) (by decide) h (fun _ h => ?_) (fun _ h => ?_)
  · refine V_pb C hn [(.iload_n 3, 1)] (pc' := 88) (ls' := [(2, .int p2), (3, .int v3), (4, .int v4)]) (st' := [.int v3]) (decB_ok (by decide +kernel)) rfl rfl ?_
    refine V_goto C (off := 5) (tgt := 93) (by decide +kernel) (by decide) ?_
    have h := Option.some.inj h
    subst h
    exact V_iret C (by decide +kernel) rfl
  · refine V_pb C hn [(.iload 4, 2)] (pc' := 93) (ls' := [(2, .int p2), (3, .int v3), (4, .int v4)]) (st' := [.int v4]) (decB_ok (by decide +kernel)) rfl rfl ?_
    have h := Option.some.inj h
    subst h
    exact V_iret C (by decide +kernel) rfl
set_option maxRecDepth 100000 in
set_option maxHeartbeats 400000 in
theorem cfX4_whips_j77 {E : VE} (C : Ctx E cX4_whips RX4 6 (some .int)) (hn : E.nL = 7) {a0 : Nat → Nat} {p1 : Int32} {p2 : Int32} {v3 : Int32} {v4 : Int32} {v5 : Int32} {S0 : XT} {out : Int32 × XT} {k31 : Int32 → Int32 → Int32 → XT → Option (Int32 × XT)} (hk31 : ∀ (v3 : Int32) (v4 : Int32) (v5 : Int32) (S0 : XT), k31 v3 v4 v5 S0 = some out → V E (QR E (some (.int out.1)) (wdX E.G a0 out.2)) (wdX E.G a0 S0) 31 [(0, .ref (a0 0)), (1, .int p1), (2, .int p2), (3, .int v3), (4, .int v4), (5, .int v5)] []) (h : fX4_whips_j77 k31 p1 p2 v3 v4 v5 S0 = some out) : V E (QR E (some (.int out.1)) (wdX E.G a0 out.2)) (wdX E.G a0 S0) 77 [(0, .ref (a0 0)), (1, .int p1), (2, .int p2), (3, .int v3), (4, .int v4), (5, .int v5)] [] := by
  unfold fX4_whips_j77 at h
  refine V_pb C hn [(.iinc 5 1, 3)] (pc' := 80) (ls' := [(0, .ref (a0 0)), (1, .int p1), (2, .int p2), (3, .int v3), (4, .int v4), (5, .int (v5 + (1 : Int32)))]) (st' := []) (decB_ok (by decide +kernel)) rfl rfl ?_
  refine V_goto C (off := -49) (tgt := 31) (by decide +kernel) (by decide) ?_
  refine V_sub (ls' := [(0, .ref (a0 0)), (1, .int p1), (2, .int p2), (3, .int v3), (4, .int v4), (5, .int (v5 + (1 : Int32)))]) rfl ?_
  exact hk31 _ _ _ _ h
set_option maxRecDepth 100000 in
set_option maxHeartbeats 400000 in
theorem cfX4_whips_L31 {E : VE} (C : Ctx E cX4_whips RX4 6 (some .int)) (hn : E.nL = 7) {a0 : Nat → Nat} {p1 : Int32} {p2 : Int32} {out : Int32 × XT} : ∀ (n : Nat) (v3 : Int32) (v4 : Int32) (v5 : Int32) (S0 : XT), fX4_whips_L31 p1 p2 n v3 v4 v5 S0 = some out → V E (QR E (some (.int out.1)) (wdX E.G a0 out.2)) (wdX E.G a0 S0) 31 [(0, .ref (a0 0)), (1, .int p1), (2, .int p2), (3, .int v3), (4, .int v4), (5, .int v5)] [] := by
  intro n
  induction n with
  | zero =>
    intro v3 v4 v5 S0 h
    cases h
  | succ n ih =>
    intro v3 v4 v5 S0 h
    unfold fX4_whips_L31 at h
    refine V_pb C hn [(.iload 5, 2), (.iconst 4, 1)] (pc' := 34) (ls' := [(0, .ref (a0 0)), (1, .int p1), (2, .int p2), (3, .int v3), (4, .int v4), (5, .int v5)]) (st' := [.int (4 : Int32), .int v5]) (decB_ok (by decide +kernel)) rfl rfl ?_
    refine V_ic_gt C (off := 49) (tgt := 83) (by decide +kernel) (by decide) h (fun _ h => ?_) (fun _ h => ?_)
    · refine V_sub (ls' := [(2, .int p2), (3, .int v3), (4, .int v4)]) rfl ?_
      exact cfX4_whips_j83 C hn h
    · refine V_pb C hn [(.aload_n 0, 1), (.aload_n 0, 1), (.aload_n 0, 1), (.iload 5, 2), (.iload_n 1, 1)] (pc' := 43) (ls' := [(0, .ref (a0 0)), (1, .int p1), (2, .int p2), (3, .int v3), (4, .int v4), (5, .int v5)]) (st' := [.int p1, .int v5, .ref (a0 0), .ref (a0 0), .ref (a0 0)]) (decB_ok (by decide +kernel)) rfl rfl ?_
      obtain ⟨q5, h6, h⟩ := bnd h
      refine V_callV0 C (As := [.int v5, .int p1]) (rest := [.ref (a0 0), .ref (a0 0)]) (by decide +kernel) ok_yX4_leastDoor mk_RX4_266 (cfX4_leastDoor (l := E.l) (G := E.G) a0 h6) (q0 := 0) rfl rfl rfl rfl rfl rfl (Nat.le_of_ble_eq_true rfl) (Nat.le_of_ble_eq_true rfl) (Nat.le_of_ble_eq_true rfl) ?_
      show V E _ (wdX E.G a0 q5.2) 46 [(0, .ref (a0 0)), (1, .int p1), (2, .int p2), (3, .int v3), (4, .int v4), (5, .int v5)] [.int q5.1, .ref (a0 0), .ref (a0 0)]
      obtain ⟨q7, h8, h⟩ := bnd h
      refine V_callV0 C (As := [.int q5.1]) (rest := [.ref (a0 0)]) (by decide +kernel) ok_yX4_turned mk_RX4_269 (cfX4_turned (l := E.l) (G := E.G) a0 h8) (q0 := 0) rfl rfl rfl rfl rfl rfl (Nat.le_of_ble_eq_true rfl) (Nat.le_of_ble_eq_true rfl) (Nat.le_of_ble_eq_true rfl) ?_
      show V E _ (wdX E.G a0 q5.2) 49 [(0, .ref (a0 0)), (1, .int p1), (2, .int p2), (3, .int v3), (4, .int v4), (5, .int v5)] [.int q7, .ref (a0 0)]
      refine V_pb C hn [(.iload 5, 2), (.iload_n 1, 1)] (pc' := 52) (ls' := [(0, .ref (a0 0)), (1, .int p1), (2, .int p2), (3, .int v3), (4, .int v4), (5, .int v5)]) (st' := [.int p1, .int v5, .int q7, .ref (a0 0)]) (decB_ok (by decide +kernel)) rfl rfl ?_
      obtain ⟨q9, h10, h⟩ := bnd h
      refine V_callV0 C (As := [.int q7, .int v5, .int p1]) (rest := []) (by decide +kernel) ok_yX4_lookAheadBy mk_RX4_259 (cfX4_lookAheadBy (l := E.l) (G := E.G) a0 h10) (q0 := 0) rfl rfl rfl rfl rfl rfl (Nat.le_of_ble_eq_true rfl) (Nat.le_of_ble_eq_true rfl) (Nat.le_of_ble_eq_true rfl) ?_
      show V E _ (wdX E.G a0 q9) 55 [(0, .ref (a0 0)), (1, .int p1), (2, .int p2), (3, .int v3), (4, .int v4), (5, .int v5)] []
      refine V_pb C hn [(.aload_n 0, 1)] (pc' := 56) (ls' := [(0, .ref (a0 0)), (1, .int p1), (2, .int p2), (3, .int v3), (4, .int v4), (5, .int v5)]) (st' := [.ref (a0 0)]) (decB_ok (by decide +kernel)) rfl rfl ?_
      refine V_get C (v := .ref (a0 12)) (by decide +kernel) 0 2 fk_RX4_19 rfl rfl ?_
      obtain ⟨q11, h12, h⟩ := bnd h
      refine V_callVp C (As := []) (rest := []) (by decide +kernel) ok_yX1_litWeight mk_RX4_204 (cfX1_litWeight (l := E.l) (G := E.G) (fun j => a0 (12 + j)) h12) [12, 13, 14, 15] (q0 := 0) rfl rfl rfl rfl rfl rfl rfl (Nat.le_of_ble_eq_true rfl) (Nat.le_of_ble_eq_true rfl) (Nat.le_of_ble_eq_true rfl) ?_
      show V E _ (wdX E.G a0 q9) 62 [(0, .ref (a0 0)), (1, .int p1), (2, .int p2), (3, .int v3), (4, .int v4), (5, .int v5)] [.int q11]
      refine V_pb C hn [(.istore 6, 2), (.iload 6, 2), (.iload_n 3, 1)] (pc' := 67) (ls' := [(0, .ref (a0 0)), (1, .int p1), (2, .int p2), (3, .int v3), (4, .int v4), (5, .int v5), (6, .int q11)]) (st' := [.int v3, .int q11]) (decB_ok (by decide +kernel)) rfl rfl ?_
      refine V_ic_le C (off := 10) (tgt := 77) (by decide +kernel) (by decide) h (fun _ h => ?_) (fun _ h => ?_)
      · refine V_sub (ls' := [(0, .ref (a0 0)), (1, .int p1), (2, .int p2), (3, .int v3), (4, .int v4), (5, .int v5)]) rfl ?_
        exact cfX4_whips_j77 C hn (k31 := (fun v3 v4 v5 S0 => fX4_whips_L31 p1 p2 n v3 v4 v5 S0)) (fun v3 v4 v5 S0 h => ih v3 v4 v5 S0 h) h
      · refine V_pb C hn [(.iload 6, 2), (.istore_n 3, 1), (.iload 5, 2), (.istore 4, 2)] (pc' := 77) (ls' := [(0, .ref (a0 0)), (1, .int p1), (2, .int p2), (3, .int q11), (4, .int v5), (5, .int v5), (6, .int q11)]) (st' := []) (decB_ok (by decide +kernel)) rfl rfl ?_
        refine V_sub (ls' := [(0, .ref (a0 0)), (1, .int p1), (2, .int p2), (3, .int q11), (4, .int v5), (5, .int v5)]) rfl ?_
        exact cfX4_whips_j77 C hn (k31 := (fun v3 v4 v5 S0 => fX4_whips_L31 p1 p2 n v3 v4 v5 S0)) (fun v3 v4 v5 S0 h => ih v3 v4 v5 S0 h) h
set_option maxRecDepth 100000 in
set_option maxHeartbeats 400000 in
theorem cfX4_whips {l : Launch} {G : GG} (a0 : Nat → Nat) {p1 : Int32} {p2 : Int32} {S0 : XT} {out : Int32 × XT} (h : fX4_whips p1 p2 S0 = some out) : Con l G 6 yX4_whips cX4_whips 7 (some .int) [.ref (a0 0), .int p1, .int p2] (wdX G a0 S0) (some (.int out.1)) (wdX G a0 out.2) := by
  refine Con_of (by decide +kernel) (Nat.le_of_ble_eq_true rfl) (fun E hl hG hn C => ?_)
  subst hl
  subst hG
  have C : Ctx E cX4_whips RX4 6 (some .int) := C
  show V E _ _ 0 [(0, .ref (a0 0)), (1, .int p1), (2, .int p2)] []
  unfold fX4_whips at h
  refine V_pb C hn [(.iload_n 1, 1)] (pc' := 1) (ls' := [(0, .ref (a0 0)), (1, .int p1), (2, .int p2)]) (st' := [.int p1]) (decB_ok (by decide +kernel)) rfl rfl ?_
  obtain ⟨q1, h2, h⟩ := bnd h
  refine V_callSp C (As := [.int p1]) (rest := []) (by decide +kernel) ok_yX4_isTime mk_RX4_194 (cfX4_isTime (l := E.l) (G := E.G) h2) [] rfl rfl rfl rfl (Nat.le_of_ble_eq_true rfl) (Nat.le_of_ble_eq_true rfl) (Nat.le_of_ble_eq_true rfl) ?_
  show V E _ (wdX E.G a0 S0) 4 [(0, .ref (a0 0)), (1, .int p1), (2, .int p2)] [.int q1]
  refine V_if_eq C (off := 12) (tgt := 16) (by decide +kernel) (by decide) h (fun _ h => ?_) (fun _ h => ?_)
  · refine V_sub (ls' := [(0, .ref (a0 0))]) rfl ?_
    exact cfX4_whips_j16 C hn h
  · refine V_pb C hn [(.iload_n 2, 1)] (pc' := 8) (ls' := [(0, .ref (a0 0)), (1, .int p1), (2, .int p2)]) (st' := [.int p2]) (decB_ok (by decide +kernel)) rfl rfl ?_
    refine V_if_lt C (off := 8) (tgt := 16) (by decide +kernel) (by decide) h (fun _ h => ?_) (fun _ h => ?_)
    · refine V_sub (ls' := [(0, .ref (a0 0))]) rfl ?_
      exact cfX4_whips_j16 C hn h
    · refine V_pb C hn [(.iload_n 2, 1), (.iconst 1, 1)] (pc' := 13) (ls' := [(0, .ref (a0 0)), (1, .int p1), (2, .int p2)]) (st' := [.int (1 : Int32), .int p2]) (decB_ok (by decide +kernel)) rfl rfl ?_
      refine V_ic_le C (off := 10) (tgt := 23) (by decide +kernel) (by decide) h (fun _ h => ?_) (fun _ h => ?_)
      · refine V_pb C hn [(.iconst (-1), 1), (.istore_n 3, 1), (.iconst 0, 1), (.istore 4, 2), (.iconst 0, 1), (.istore 5, 2)] (pc' := 31) (ls' := [(0, .ref (a0 0)), (1, .int p1), (2, .int p2), (3, .int (cI (-1))), (4, .int (0 : Int32)), (5, .int (0 : Int32))]) (st' := []) (decB_ok (by decide +kernel)) rfl rfl ?_
        refine V_sub (ls' := [(0, .ref (a0 0)), (1, .int p1), (2, .int p2), (3, .int (cI (-1))), (4, .int (0 : Int32)), (5, .int (0 : Int32))]) rfl ?_
        exact cfX4_whips_L31 C hn FU _ _ _ _ h
      · refine V_sub (ls' := [(0, .ref (a0 0))]) rfl ?_
        exact cfX4_whips_j16 C hn h
set_option maxRecDepth 100000 in
set_option maxHeartbeats 400000 in
theorem cfX4_answer_j16 {E : VE} (C : Ctx E cX4_answer RX4 6 (some .int)) (hn : E.nL = 3) {a0 : Nat → Nat} {p1 : Int32} {p2 : Int32} {S0 : XT} {out : Int32 × XT} (h : fX4_answer_j16 p1 p2 S0 = some out) : V E (QR E (some (.int out.1)) (wdX E.G a0 out.2)) (wdX E.G a0 S0) 16 [(0, .ref (a0 0))] [] := by
  unfold fX4_answer_j16 at h
  refine V_pb C hn [(.aload_n 0, 1), (.bipush (-2), 2)] (pc' := 19) (ls' := [(0, .ref (a0 0))]) (st' := [.int (cI (-2)), .ref (a0 0)]) (decB_ok (by decide +kernel)) rfl rfl ?_
  obtain ⟨q3, h4, h⟩ := bnd h
  refine V_callV0 C (As := [.int (cI (-2))]) (rest := []) (by decide +kernel) ok_yX4_refuse mk_RX4_57 (cfX4_refuse (l := E.l) (G := E.G) a0 h4) (q0 := 0) rfl rfl rfl rfl rfl rfl (Nat.le_of_ble_eq_true rfl) (Nat.le_of_ble_eq_true rfl) (Nat.le_of_ble_eq_true rfl) ?_
  show V E _ (wdX E.G a0 q3.2) 22 [(0, .ref (a0 0))] [.int q3.1]
  have h := Option.some.inj h
  subst h
  exact V_iret C (by decide +kernel) rfl
set_option maxRecDepth 100000 in
set_option maxHeartbeats 400000 in
theorem cfX4_answer {l : Launch} {G : GG} (a0 : Nat → Nat) {p1 : Int32} {p2 : Int32} {S0 : XT} {out : Int32 × XT} (h : fX4_answer p1 p2 S0 = some out) : Con l G 6 yX4_answer cX4_answer 3 (some .int) [.ref (a0 0), .int p1, .int p2] (wdX G a0 S0) (some (.int out.1)) (wdX G a0 out.2) := by
  refine Con_of (by decide +kernel) (Nat.le_of_ble_eq_true rfl) (fun E hl hG hn C => ?_)
  subst hl
  subst hG
  have C : Ctx E cX4_answer RX4 6 (some .int) := C
  show V E _ _ 0 [(0, .ref (a0 0)), (1, .int p1), (2, .int p2)] []
  unfold fX4_answer at h
  refine V_pb C hn [(.iload_n 1, 1)] (pc' := 1) (ls' := [(0, .ref (a0 0)), (1, .int p1), (2, .int p2)]) (st' := [.int p1]) (decB_ok (by decide +kernel)) rfl rfl ?_
  obtain ⟨q1, h2, h⟩ := bnd h
  refine V_callSp C (As := [.int p1]) (rest := []) (by decide +kernel) ok_yX4_isTime mk_RX4_194 (cfX4_isTime (l := E.l) (G := E.G) h2) [] rfl rfl rfl rfl (Nat.le_of_ble_eq_true rfl) (Nat.le_of_ble_eq_true rfl) (Nat.le_of_ble_eq_true rfl) ?_
  show V E _ (wdX E.G a0 S0) 4 [(0, .ref (a0 0)), (1, .int p1), (2, .int p2)] [.int q1]
  refine V_if_eq C (off := 12) (tgt := 16) (by decide +kernel) (by decide) h (fun _ h => ?_) (fun _ h => ?_)
  · refine V_sub (ls' := [(0, .ref (a0 0))]) rfl ?_
    exact cfX4_answer_j16 C hn h
  · refine V_pb C hn [(.iload_n 2, 1)] (pc' := 8) (ls' := [(0, .ref (a0 0)), (1, .int p1), (2, .int p2)]) (st' := [.int p2]) (decB_ok (by decide +kernel)) rfl rfl ?_
    refine V_if_lt C (off := 8) (tgt := 16) (by decide +kernel) (by decide) h (fun _ h => ?_) (fun _ h => ?_)
    · refine V_sub (ls' := [(0, .ref (a0 0))]) rfl ?_
      exact cfX4_answer_j16 C hn h
    · refine V_pb C hn [(.iload_n 2, 1), (.iconst 4, 1)] (pc' := 13) (ls' := [(0, .ref (a0 0)), (1, .int p1), (2, .int p2)]) (st' := [.int (4 : Int32), .int p2]) (decB_ok (by decide +kernel)) rfl rfl ?_
      refine V_ic_le C (off := 10) (tgt := 23) (by decide +kernel) (by decide) h (fun _ h => ?_) (fun _ h => ?_)
      · refine V_pb C hn [(.aload_n 0, 1), (.iload_n 2, 1), (.iload_n 1, 1)] (pc' := 26) (ls' := [(0, .ref (a0 0)), (1, .int p1), (2, .int p2)]) (st' := [.int p1, .int p2, .ref (a0 0)]) (decB_ok (by decide +kernel)) rfl rfl ?_
        obtain ⟨q5, h6, h⟩ := bnd h
        refine V_callV0 C (As := [.int p2, .int p1]) (rest := []) (by decide +kernel) ok_yX4_leastDoor mk_RX4_266 (cfX4_leastDoor (l := E.l) (G := E.G) a0 h6) (q0 := 0) rfl rfl rfl rfl rfl rfl (Nat.le_of_ble_eq_true rfl) (Nat.le_of_ble_eq_true rfl) (Nat.le_of_ble_eq_true rfl) ?_
        show V E _ (wdX E.G a0 q5.2) 29 [(0, .ref (a0 0)), (1, .int p1), (2, .int p2)] [.int q5.1]
        have h := Option.some.inj h
        subst h
        exact V_iret C (by decide +kernel) rfl
      · refine V_sub (ls' := [(0, .ref (a0 0))]) rfl ?_
        exact cfX4_answer_j16 C hn h
set_option maxRecDepth 100000 in
set_option maxHeartbeats 400000 in
theorem cfX4_doorFor_j66 {E : VE} (C : Ctx E cX4_doorFor RX4 5 (some .int)) (hn : E.nL = 6) {a0 : Nat → Nat} {p1 : Int32} {v2 : Int32} {v3 : Int32} {v4 : Int32} {S0 : XT} {out : Int32 × XT} {k21 : Int32 → Int32 → Int32 → XT → Option (Int32 × XT)} (hk21 : ∀ (v2 : Int32) (v3 : Int32) (v4 : Int32) (S0 : XT), k21 v2 v3 v4 S0 = some out → V E (QR E (some (.int out.1)) (wdX E.G a0 out.2)) (wdX E.G a0 S0) 21 [(0, .ref (a0 0)), (1, .int p1), (2, .int v2), (3, .int v3), (4, .int v4)] []) (h : fX4_doorFor_j66 k21 p1 v2 v3 v4 S0 = some out) : V E (QR E (some (.int out.1)) (wdX E.G a0 out.2)) (wdX E.G a0 S0) 66 [(0, .ref (a0 0)), (1, .int p1), (2, .int v2), (3, .int v3), (4, .int v4)] [] := by
  unfold fX4_doorFor_j66 at h
  refine V_pb C hn [(.iinc 4 1, 3)] (pc' := 69) (ls' := [(0, .ref (a0 0)), (1, .int p1), (2, .int v2), (3, .int v3), (4, .int (v4 + (1 : Int32)))]) (st' := []) (decB_ok (by decide +kernel)) rfl rfl ?_
  refine V_goto C (off := -48) (tgt := 21) (by decide +kernel) (by decide) ?_
  refine V_sub (ls' := [(0, .ref (a0 0)), (1, .int p1), (2, .int v2), (3, .int v3), (4, .int (v4 + (1 : Int32)))]) rfl ?_
  exact hk21 _ _ _ _ h
set_option maxRecDepth 100000 in
set_option maxHeartbeats 400000 in
theorem cfX4_doorFor_L21 {E : VE} (C : Ctx E cX4_doorFor RX4 5 (some .int)) (hn : E.nL = 6) {a0 : Nat → Nat} {p1 : Int32} {out : Int32 × XT} : ∀ (n : Nat) (v2 : Int32) (v3 : Int32) (v4 : Int32) (S0 : XT), fX4_doorFor_L21 p1 n v2 v3 v4 S0 = some out → V E (QR E (some (.int out.1)) (wdX E.G a0 out.2)) (wdX E.G a0 S0) 21 [(0, .ref (a0 0)), (1, .int p1), (2, .int v2), (3, .int v3), (4, .int v4)] [] := by
  intro n
  induction n with
  | zero =>
    intro v2 v3 v4 S0 h
    cases h
  | succ n ih =>
    intro v2 v3 v4 S0 h
    unfold fX4_doorFor_L21 at h
    refine V_pb C hn [(.iload 4, 2), (.iconst 4, 1)] (pc' := 24) (ls' := [(0, .ref (a0 0)), (1, .int p1), (2, .int v2), (3, .int v3), (4, .int v4)]) (st' := [.int (4 : Int32), .int v4]) (decB_ok (by decide +kernel)) rfl rfl ?_
    refine V_ic_gt C (off := 48) (tgt := 72) (by decide +kernel) (by decide) h (fun _ h => ?_) (fun _ h => ?_)
    · refine V_pb C hn [(.iload_n 3, 1)] (pc' := 73) (ls' := [(0, .ref (a0 0)), (1, .int p1), (2, .int v2), (3, .int v3), (4, .int v4)]) (st' := [.int v3]) (decB_ok (by decide +kernel)) rfl rfl ?_
      have h := Option.some.inj h
      subst h
      exact V_iret C (by decide +kernel) rfl
    · refine V_pb C hn [(.aload_n 0, 1), (.aload_n 0, 1), (.iload 4, 2)] (pc' := 31) (ls' := [(0, .ref (a0 0)), (1, .int p1), (2, .int v2), (3, .int v3), (4, .int v4)]) (st' := [.int v4, .ref (a0 0), .ref (a0 0)]) (decB_ok (by decide +kernel)) rfl rfl ?_
      obtain ⟨q5, h6, h⟩ := bnd h
      refine V_callV0 C (As := [.int v4]) (rest := [.ref (a0 0)]) (by decide +kernel) ok_yX4_turned mk_RX4_269 (cfX4_turned (l := E.l) (G := E.G) a0 h6) (q0 := 0) rfl rfl rfl rfl rfl rfl (Nat.le_of_ble_eq_true rfl) (Nat.le_of_ble_eq_true rfl) (Nat.le_of_ble_eq_true rfl) ?_
      show V E _ (wdX E.G a0 S0) 34 [(0, .ref (a0 0)), (1, .int p1), (2, .int v2), (3, .int v3), (4, .int v4)] [.int q5, .ref (a0 0)]
      refine V_pb C hn [(.aload_n 0, 1)] (pc' := 35) (ls' := [(0, .ref (a0 0)), (1, .int p1), (2, .int v2), (3, .int v3), (4, .int v4)]) (st' := [.ref (a0 0), .int q5, .ref (a0 0)]) (decB_ok (by decide +kernel)) rfl rfl ?_
      refine V_get C (v := .ref (a0 4)) (by decide +kernel) 0 0 fk_RX4_12 rfl rfl ?_
      refine V_get C (v := .int (h_fan (x_now S0))) (by decide +kernel) 4 6 fk_RX4_256 rfl rfl ?_
      refine V_pb C hn [(.iload_n 1, 1)] (pc' := 42) (ls' := [(0, .ref (a0 0)), (1, .int p1), (2, .int v2), (3, .int v3), (4, .int v4)]) (st' := [.int p1, .int (h_fan (x_now S0)), .int q5, .ref (a0 0)]) (decB_ok (by decide +kernel)) rfl rfl ?_
      obtain ⟨q7, h8, h⟩ := bnd h
      refine V_callV0 C (As := [.int q5, .int (h_fan (x_now S0)), .int p1]) (rest := []) (by decide +kernel) ok_yX4_lookAheadBy mk_RX4_259 (cfX4_lookAheadBy (l := E.l) (G := E.G) a0 h8) (q0 := 0) rfl rfl rfl rfl rfl rfl (Nat.le_of_ble_eq_true rfl) (Nat.le_of_ble_eq_true rfl) (Nat.le_of_ble_eq_true rfl) ?_
      show V E _ (wdX E.G a0 q7) 45 [(0, .ref (a0 0)), (1, .int p1), (2, .int v2), (3, .int v3), (4, .int v4)] []
      refine V_pb C hn [(.aload_n 0, 1)] (pc' := 46) (ls' := [(0, .ref (a0 0)), (1, .int p1), (2, .int v2), (3, .int v3), (4, .int v4)]) (st' := [.ref (a0 0)]) (decB_ok (by decide +kernel)) rfl rfl ?_
      refine V_get C (v := .ref (a0 12)) (by decide +kernel) 0 2 fk_RX4_19 rfl rfl ?_
      obtain ⟨q9, h10, h⟩ := bnd h
      refine V_callVp C (As := []) (rest := []) (by decide +kernel) ok_yX1_litWeight mk_RX4_204 (cfX1_litWeight (l := E.l) (G := E.G) (fun j => a0 (12 + j)) h10) [12, 13, 14, 15] (q0 := 0) rfl rfl rfl rfl rfl rfl rfl (Nat.le_of_ble_eq_true rfl) (Nat.le_of_ble_eq_true rfl) (Nat.le_of_ble_eq_true rfl) ?_
      show V E _ (wdX E.G a0 q7) 52 [(0, .ref (a0 0)), (1, .int p1), (2, .int v2), (3, .int v3), (4, .int v4)] [.int q9]
      refine V_pb C hn [(.istore 5, 2), (.iload 5, 2), (.iload_n 2, 1)] (pc' := 57) (ls' := [(0, .ref (a0 0)), (1, .int p1), (2, .int v2), (3, .int v3), (4, .int v4), (5, .int q9)]) (st' := [.int v2, .int q9]) (decB_ok (by decide +kernel)) rfl rfl ?_
      refine V_ic_le C (off := 9) (tgt := 66) (by decide +kernel) (by decide) h (fun _ h => ?_) (fun _ h => ?_)
      · refine V_sub (ls' := [(0, .ref (a0 0)), (1, .int p1), (2, .int v2), (3, .int v3), (4, .int v4)]) rfl ?_
        exact cfX4_doorFor_j66 C hn (k21 := (fun v2 v3 v4 S0 => fX4_doorFor_L21 p1 n v2 v3 v4 S0)) (fun v2 v3 v4 S0 h => ih v2 v3 v4 S0 h) h
      · refine V_pb C hn [(.iload 5, 2), (.istore_n 2, 1), (.iload 4, 2), (.istore_n 3, 1)] (pc' := 66) (ls' := [(0, .ref (a0 0)), (1, .int p1), (2, .int q9), (3, .int v4), (4, .int v4), (5, .int q9)]) (st' := []) (decB_ok (by decide +kernel)) rfl rfl ?_
        refine V_sub (ls' := [(0, .ref (a0 0)), (1, .int p1), (2, .int q9), (3, .int v4), (4, .int v4)]) rfl ?_
        exact cfX4_doorFor_j66 C hn (k21 := (fun v2 v3 v4 S0 => fX4_doorFor_L21 p1 n v2 v3 v4 S0)) (fun v2 v3 v4 S0 h => ih v2 v3 v4 S0 h) h
set_option maxRecDepth 100000 in
set_option maxHeartbeats 400000 in
theorem cfX4_doorFor {l : Launch} {G : GG} (a0 : Nat → Nat) {p1 : Int32} {S0 : XT} {out : Int32 × XT} (h : fX4_doorFor p1 S0 = some out) : Con l G 5 yX4_doorFor cX4_doorFor 6 (some .int) [.ref (a0 0), .int p1] (wdX G a0 S0) (some (.int out.1)) (wdX G a0 out.2) := by
  refine Con_of (by decide +kernel) (Nat.le_of_ble_eq_true rfl) (fun E hl hG hn C => ?_)
  subst hl
  subst hG
  have C : Ctx E cX4_doorFor RX4 5 (some .int) := C
  show V E _ _ 0 [(0, .ref (a0 0)), (1, .int p1)] []
  unfold fX4_doorFor at h
  refine V_pb C hn [(.iload_n 1, 1)] (pc' := 1) (ls' := [(0, .ref (a0 0)), (1, .int p1)]) (st' := [.int p1]) (decB_ok (by decide +kernel)) rfl rfl ?_
  obtain ⟨q1, h2, h⟩ := bnd h
  refine V_callSp C (As := [.int p1]) (rest := []) (by decide +kernel) ok_yX4_isTime mk_RX4_194 (cfX4_isTime (l := E.l) (G := E.G) h2) [] rfl rfl rfl rfl (Nat.le_of_ble_eq_true rfl) (Nat.le_of_ble_eq_true rfl) (Nat.le_of_ble_eq_true rfl) ?_
  show V E _ (wdX E.G a0 S0) 4 [(0, .ref (a0 0)), (1, .int p1)] [.int q1]
  refine V_if_ne C (off := 10) (tgt := 14) (by decide +kernel) (by decide) h (fun _ h => ?_) (fun _ h => ?_)
  · refine V_pb C hn [(.aload_n 0, 1), (.bipush (-2), 2)] (pc' := 10) (ls' := [(0, .ref (a0 0)), (1, .int p1)]) (st' := [.int (cI (-2)), .ref (a0 0)]) (decB_ok (by decide +kernel)) rfl rfl ?_
    obtain ⟨q3, h4, h⟩ := bnd h
    refine V_callV0 C (As := [.int (cI (-2))]) (rest := []) (by decide +kernel) ok_yX4_refuse mk_RX4_57 (cfX4_refuse (l := E.l) (G := E.G) a0 h4) (q0 := 0) rfl rfl rfl rfl rfl rfl (Nat.le_of_ble_eq_true rfl) (Nat.le_of_ble_eq_true rfl) (Nat.le_of_ble_eq_true rfl) ?_
    show V E _ (wdX E.G a0 q3.2) 13 [(0, .ref (a0 0)), (1, .int p1)] [.int q3.1]
    have h := Option.some.inj h
    subst h
    exact V_iret C (by decide +kernel) rfl
  · refine V_pb C hn [(.iconst (-1), 1), (.istore_n 2, 1), (.iconst 0, 1), (.istore_n 3, 1), (.iconst 0, 1), (.istore 4, 2)] (pc' := 21) (ls' := [(0, .ref (a0 0)), (1, .int p1), (2, .int (cI (-1))), (3, .int (0 : Int32)), (4, .int (0 : Int32))]) (st' := []) (decB_ok (by decide +kernel)) rfl rfl ?_
    refine V_sub (ls' := [(0, .ref (a0 0)), (1, .int p1), (2, .int (cI (-1))), (3, .int (0 : Int32)), (4, .int (0 : Int32))]) rfl ?_
    exact cfX4_doorFor_L21 C hn FU _ _ _ _ h
set_option maxRecDepth 100000 in
set_option maxHeartbeats 400000 in
theorem cfX4_beamFor_j77 {E : VE} (C : Ctx E cX4_beamFor RX4 4 (some .int)) (hn : E.nL = 6) {a0 : Nat → Nat} {p1 : Int32} {v2 : Int32} {v3 : Int32} {v4 : Int32} {S0 : XT} {out : Int32 × XT} {k21 : Int32 → Int32 → Int32 → XT → Option (Int32 × XT)} (hk21 : ∀ (v2 : Int32) (v3 : Int32) (v4 : Int32) (S0 : XT), k21 v2 v3 v4 S0 = some out → V E (QR E (some (.int out.1)) (wdX E.G a0 out.2)) (wdX E.G a0 S0) 21 [(0, .ref (a0 0)), (1, .int p1), (2, .int v2), (3, .int v3), (4, .int v4)] []) (h : fX4_beamFor_j77 k21 p1 v2 v3 v4 S0 = some out) : V E (QR E (some (.int out.1)) (wdX E.G a0 out.2)) (wdX E.G a0 S0) 77 [(0, .ref (a0 0)), (1, .int p1), (2, .int v2), (3, .int v3), (4, .int v4)] [] := by
  unfold fX4_beamFor_j77 at h
  refine V_pb C hn [(.iinc 4 1, 3)] (pc' := 80) (ls' := [(0, .ref (a0 0)), (1, .int p1), (2, .int v2), (3, .int v3), (4, .int (v4 + (1 : Int32)))]) (st' := []) (decB_ok (by decide +kernel)) rfl rfl ?_
  refine V_goto C (off := -59) (tgt := 21) (by decide +kernel) (by decide) ?_
  refine V_sub (ls' := [(0, .ref (a0 0)), (1, .int p1), (2, .int v2), (3, .int v3), (4, .int (v4 + (1 : Int32)))]) rfl ?_
  exact hk21 _ _ _ _ h
set_option maxRecDepth 100000 in
set_option maxHeartbeats 400000 in
theorem cfX4_beamFor_L21 {E : VE} (C : Ctx E cX4_beamFor RX4 4 (some .int)) (hn : E.nL = 6) {a0 : Nat → Nat} {p1 : Int32} {out : Int32 × XT} : ∀ (n : Nat) (v2 : Int32) (v3 : Int32) (v4 : Int32) (S0 : XT), fX4_beamFor_L21 p1 n v2 v3 v4 S0 = some out → V E (QR E (some (.int out.1)) (wdX E.G a0 out.2)) (wdX E.G a0 S0) 21 [(0, .ref (a0 0)), (1, .int p1), (2, .int v2), (3, .int v3), (4, .int v4)] [] := by
  intro n
  induction n with
  | zero =>
    intro v2 v3 v4 S0 h
    cases h
  | succ n ih =>
    intro v2 v3 v4 S0 h
    unfold fX4_beamFor_L21 at h
    refine V_pb C hn [(.iload 4, 2), (.bipush 6, 2)] (pc' := 25) (ls' := [(0, .ref (a0 0)), (1, .int p1), (2, .int v2), (3, .int v3), (4, .int v4)]) (st' := [.int (6 : Int32), .int v4]) (decB_ok (by decide +kernel)) rfl rfl ?_
    refine V_ic_gt C (off := 58) (tgt := 83) (by decide +kernel) (by decide) h (fun _ h => ?_) (fun _ h => ?_)
    · refine V_pb C hn [(.iload_n 3, 1)] (pc' := 84) (ls' := [(0, .ref (a0 0)), (1, .int p1), (2, .int v2), (3, .int v3), (4, .int v4)]) (st' := [.int v3]) (decB_ok (by decide +kernel)) rfl rfl ?_
      have h := Option.some.inj h
      subst h
      exact V_iret C (by decide +kernel) rfl
    · refine V_pb C hn [(.aload_n 0, 1)] (pc' := 29) (ls' := [(0, .ref (a0 0)), (1, .int p1), (2, .int v2), (3, .int v3), (4, .int v4)]) (st' := [.ref (a0 0)]) (decB_ok (by decide +kernel)) rfl rfl ?_
      refine V_get C (v := .ref (a0 12)) (by decide +kernel) 0 2 fk_RX4_19 rfl rfl ?_
      refine V_pb C hn [(.aload_n 0, 1)] (pc' := 33) (ls' := [(0, .ref (a0 0)), (1, .int p1), (2, .int v2), (3, .int v3), (4, .int v4)]) (st' := [.ref (a0 0), .ref (a0 12)]) (decB_ok (by decide +kernel)) rfl rfl ?_
      refine V_get C (v := .ref (a0 4)) (by decide +kernel) 0 0 fk_RX4_12 rfl rfl ?_
      obtain ⟨q5, h6, h⟩ := bnd h
      refine V_callV (ws' := wdX E.G a0 (xs_trial S0 q5)) C (As := [.ref (a0 4)]) (rest := []) (by decide +kernel) ok_yX1_takeOver mk_RX4_170 (cfX1_takeOver (l := E.l) (G := E.G) (fun j => a0 (12 + j)) (fun j => a0 (4 + j)) h6) [12, 13, 14, 15, 4, 5, 6, 7] (q0 := 0) rfl rfl rfl rfl rfl rfl rfl rfl rfl (Nat.le_of_ble_eq_true rfl) (Nat.le_of_ble_eq_true rfl) (Nat.le_of_ble_eq_true rfl) ?_
      show V E _ (wdX E.G a0 (xs_trial S0 q5)) 39 [(0, .ref (a0 0)), (1, .int p1), (2, .int v2), (3, .int v3), (4, .int v4)] []
      refine V_pb C hn [(.aload_n 0, 1)] (pc' := 40) (ls' := [(0, .ref (a0 0)), (1, .int p1), (2, .int v2), (3, .int v3), (4, .int v4)]) (st' := [.ref (a0 0)]) (decB_ok (by decide +kernel)) rfl rfl ?_
      refine V_get C (v := .ref (a0 12)) (by decide +kernel) 0 2 fk_RX4_19 rfl rfl ?_
      refine V_pb C hn [(.iload 4, 2)] (pc' := 45) (ls' := [(0, .ref (a0 0)), (1, .int p1), (2, .int v2), (3, .int v3), (4, .int v4)]) (st' := [.int v4, .ref (a0 12)]) (decB_ok (by decide +kernel)) rfl rfl ?_
      refine V_put C (v := .int v4) (ws' := wdX E.G a0 (xs_trial S0 (hs_beam q5 v4))) (by decide +kernel) 12 9 pk_RX4_272 rfl rfl rfl (Nat.le_of_ble_eq_true rfl) rfl ?_
      refine V_pb C hn [(.aload_n 0, 1)] (pc' := 49) (ls' := [(0, .ref (a0 0)), (1, .int p1), (2, .int v2), (3, .int v3), (4, .int v4)]) (st' := [.ref (a0 0)]) (decB_ok (by decide +kernel)) rfl rfl ?_
      refine V_get C (v := .ref (a0 12)) (by decide +kernel) 0 2 fk_RX4_19 rfl rfl ?_
      refine V_pb C hn [(.iload_n 1, 1)] (pc' := 53) (ls' := [(0, .ref (a0 0)), (1, .int p1), (2, .int v2), (3, .int v3), (4, .int v4)]) (st' := [.int p1, .ref (a0 12)]) (decB_ok (by decide +kernel)) rfl rfl ?_
      obtain ⟨q7, h8, h⟩ := bnd h
      refine V_callV (ws' := wdX E.G a0 (xs_trial S0 q7)) C (As := [.int p1]) (rest := []) (by decide +kernel) ok_yX1_goOn mk_RX4_229 (cfX1_goOn (l := E.l) (G := E.G) (fun j => a0 (12 + j)) h8) [12, 13, 14, 15] (q0 := 0) rfl rfl rfl rfl rfl rfl rfl rfl rfl (Nat.le_of_ble_eq_true rfl) (Nat.le_of_ble_eq_true rfl) (Nat.le_of_ble_eq_true rfl) ?_
      show V E _ (wdX E.G a0 (xs_trial S0 q7)) 56 [(0, .ref (a0 0)), (1, .int p1), (2, .int v2), (3, .int v3), (4, .int v4)] []
      refine V_pb C hn [(.aload_n 0, 1)] (pc' := 57) (ls' := [(0, .ref (a0 0)), (1, .int p1), (2, .int v2), (3, .int v3), (4, .int v4)]) (st' := [.ref (a0 0)]) (decB_ok (by decide +kernel)) rfl rfl ?_
      refine V_get C (v := .ref (a0 12)) (by decide +kernel) 0 2 fk_RX4_19 rfl rfl ?_
      obtain ⟨q9, h10, h⟩ := bnd h
      refine V_callVp C (As := []) (rest := []) (by decide +kernel) ok_yX1_litWeight mk_RX4_204 (cfX1_litWeight (l := E.l) (G := E.G) (fun j => a0 (12 + j)) h10) [12, 13, 14, 15] (q0 := 0) rfl rfl rfl rfl rfl rfl rfl (Nat.le_of_ble_eq_true rfl) (Nat.le_of_ble_eq_true rfl) (Nat.le_of_ble_eq_true rfl) ?_
      show V E _ (wdX E.G a0 (xs_trial S0 q7)) 63 [(0, .ref (a0 0)), (1, .int p1), (2, .int v2), (3, .int v3), (4, .int v4)] [.int q9]
      refine V_pb C hn [(.istore 5, 2), (.iload 5, 2), (.iload_n 2, 1)] (pc' := 68) (ls' := [(0, .ref (a0 0)), (1, .int p1), (2, .int v2), (3, .int v3), (4, .int v4), (5, .int q9)]) (st' := [.int v2, .int q9]) (decB_ok (by decide +kernel)) rfl rfl ?_
      refine V_ic_le C (off := 9) (tgt := 77) (by decide +kernel) (by decide) h (fun _ h => ?_) (fun _ h => ?_)
      · refine V_sub (ls' := [(0, .ref (a0 0)), (1, .int p1), (2, .int v2), (3, .int v3), (4, .int v4)]) rfl ?_
        exact cfX4_beamFor_j77 C hn (k21 := (fun v2 v3 v4 S0 => fX4_beamFor_L21 p1 n v2 v3 v4 S0)) (fun v2 v3 v4 S0 h => ih v2 v3 v4 S0 h) h
      · refine V_pb C hn [(.iload 5, 2), (.istore_n 2, 1), (.iload 4, 2), (.istore_n 3, 1)] (pc' := 77) (ls' := [(0, .ref (a0 0)), (1, .int p1), (2, .int q9), (3, .int v4), (4, .int v4), (5, .int q9)]) (st' := []) (decB_ok (by decide +kernel)) rfl rfl ?_
        refine V_sub (ls' := [(0, .ref (a0 0)), (1, .int p1), (2, .int q9), (3, .int v4), (4, .int v4)]) rfl ?_
        exact cfX4_beamFor_j77 C hn (k21 := (fun v2 v3 v4 S0 => fX4_beamFor_L21 p1 n v2 v3 v4 S0)) (fun v2 v3 v4 S0 h => ih v2 v3 v4 S0 h) h
set_option maxRecDepth 100000 in
set_option maxHeartbeats 400000 in
theorem cfX4_beamFor {l : Launch} {G : GG} (a0 : Nat → Nat) {p1 : Int32} {S0 : XT} {out : Int32 × XT} (h : fX4_beamFor p1 S0 = some out) : Con l G 4 yX4_beamFor cX4_beamFor 6 (some .int) [.ref (a0 0), .int p1] (wdX G a0 S0) (some (.int out.1)) (wdX G a0 out.2) := by
  refine Con_of (by decide +kernel) (Nat.le_of_ble_eq_true rfl) (fun E hl hG hn C => ?_)
  subst hl
  subst hG
  have C : Ctx E cX4_beamFor RX4 4 (some .int) := C
  show V E _ _ 0 [(0, .ref (a0 0)), (1, .int p1)] []
  unfold fX4_beamFor at h
  refine V_pb C hn [(.iload_n 1, 1)] (pc' := 1) (ls' := [(0, .ref (a0 0)), (1, .int p1)]) (st' := [.int p1]) (decB_ok (by decide +kernel)) rfl rfl ?_
  obtain ⟨q1, h2, h⟩ := bnd h
  refine V_callSp C (As := [.int p1]) (rest := []) (by decide +kernel) ok_yX4_isTime mk_RX4_194 (cfX4_isTime (l := E.l) (G := E.G) h2) [] rfl rfl rfl rfl (Nat.le_of_ble_eq_true rfl) (Nat.le_of_ble_eq_true rfl) (Nat.le_of_ble_eq_true rfl) ?_
  show V E _ (wdX E.G a0 S0) 4 [(0, .ref (a0 0)), (1, .int p1)] [.int q1]
  refine V_if_ne C (off := 10) (tgt := 14) (by decide +kernel) (by decide) h (fun _ h => ?_) (fun _ h => ?_)
  · refine V_pb C hn [(.aload_n 0, 1), (.bipush (-2), 2)] (pc' := 10) (ls' := [(0, .ref (a0 0)), (1, .int p1)]) (st' := [.int (cI (-2)), .ref (a0 0)]) (decB_ok (by decide +kernel)) rfl rfl ?_
    obtain ⟨q3, h4, h⟩ := bnd h
    refine V_callV0 C (As := [.int (cI (-2))]) (rest := []) (by decide +kernel) ok_yX4_refuse mk_RX4_57 (cfX4_refuse (l := E.l) (G := E.G) a0 h4) (q0 := 0) rfl rfl rfl rfl rfl rfl (Nat.le_of_ble_eq_true rfl) (Nat.le_of_ble_eq_true rfl) (Nat.le_of_ble_eq_true rfl) ?_
    show V E _ (wdX E.G a0 q3.2) 13 [(0, .ref (a0 0)), (1, .int p1)] [.int q3.1]
    have h := Option.some.inj h
    subst h
    exact V_iret C (by decide +kernel) rfl
  · refine V_pb C hn [(.iconst (-1), 1), (.istore_n 2, 1), (.iconst 0, 1), (.istore_n 3, 1), (.iconst 0, 1), (.istore 4, 2)] (pc' := 21) (ls' := [(0, .ref (a0 0)), (1, .int p1), (2, .int (cI (-1))), (3, .int (0 : Int32)), (4, .int (0 : Int32))]) (st' := []) (decB_ok (by decide +kernel)) rfl rfl ?_
    refine V_sub (ls' := [(0, .ref (a0 0)), (1, .int p1), (2, .int (cI (-1))), (3, .int (0 : Int32)), (4, .int (0 : Int32))]) rfl ?_
    exact cfX4_beamFor_L21 C hn FU _ _ _ _ h
set_option maxRecDepth 100000 in
set_option maxHeartbeats 400000 in
theorem cfX4_warmthFor_L16 {E : VE} (C : Ctx E cX4_warmthFor RX4 4 (some .int)) (hn : E.nL = 3) {a0 : Nat → Nat} {p1 : Int32} {out : Int32 × XT} : ∀ (n : Nat) (v2 : Int32) (S0 : XT), fX4_warmthFor_L16 p1 n v2 S0 = some out → V E (QR E (some (.int out.1)) (wdX E.G a0 out.2)) (wdX E.G a0 S0) 16 [(0, .ref (a0 0)), (1, .int p1), (2, .int v2)] [] := by
  intro n
  induction n with
  | zero =>
    intro v2 S0 h
    cases h
  | succ n ih =>
    intro v2 S0 h
    unfold fX4_warmthFor_L16 at h
    refine V_pb C hn [(.iload_n 2, 1), (.iconst 5, 1)] (pc' := 18) (ls' := [(0, .ref (a0 0)), (1, .int p1), (2, .int v2)]) (st' := [.int (5 : Int32), .int v2]) (decB_ok (by decide +kernel)) rfl rfl ?_
    refine V_ic_gt C (off := 48) (tgt := 66) (by decide +kernel) (by decide) h (fun _ h => ?_) (fun _ h => ?_)
    · refine V_pb C hn [(.iconst (-1), 1)] (pc' := 67) (ls' := [(0, .ref (a0 0)), (1, .int p1), (2, .int v2)]) (st' := [.int (cI (-1))]) (decB_ok (by decide +kernel)) rfl rfl ?_
      have h := Option.some.inj h
      subst h
      exact V_iret C (by decide +kernel) rfl
    · refine V_pb C hn [(.aload_n 0, 1)] (pc' := 22) (ls' := [(0, .ref (a0 0)), (1, .int p1), (2, .int v2)]) (st' := [.ref (a0 0)]) (decB_ok (by decide +kernel)) rfl rfl ?_
      refine V_get C (v := .ref (a0 12)) (by decide +kernel) 0 2 fk_RX4_19 rfl rfl ?_
      refine V_pb C hn [(.aload_n 0, 1)] (pc' := 26) (ls' := [(0, .ref (a0 0)), (1, .int p1), (2, .int v2)]) (st' := [.ref (a0 0), .ref (a0 12)]) (decB_ok (by decide +kernel)) rfl rfl ?_
      refine V_get C (v := .ref (a0 4)) (by decide +kernel) 0 0 fk_RX4_12 rfl rfl ?_
      obtain ⟨q5, h6, h⟩ := bnd h
      refine V_callV (ws' := wdX E.G a0 (xs_trial S0 q5)) C (As := [.ref (a0 4)]) (rest := []) (by decide +kernel) ok_yX1_takeOver mk_RX4_170 (cfX1_takeOver (l := E.l) (G := E.G) (fun j => a0 (12 + j)) (fun j => a0 (4 + j)) h6) [12, 13, 14, 15, 4, 5, 6, 7] (q0 := 0) rfl rfl rfl rfl rfl rfl rfl rfl rfl (Nat.le_of_ble_eq_true rfl) (Nat.le_of_ble_eq_true rfl) (Nat.le_of_ble_eq_true rfl) ?_
      show V E _ (wdX E.G a0 (xs_trial S0 q5)) 32 [(0, .ref (a0 0)), (1, .int p1), (2, .int v2)] []
      refine V_pb C hn [(.aload_n 0, 1)] (pc' := 33) (ls' := [(0, .ref (a0 0)), (1, .int p1), (2, .int v2)]) (st' := [.ref (a0 0)]) (decB_ok (by decide +kernel)) rfl rfl ?_
      refine V_get C (v := .ref (a0 12)) (by decide +kernel) 0 2 fk_RX4_19 rfl rfl ?_
      refine V_pb C hn [(.iload_n 2, 1)] (pc' := 37) (ls' := [(0, .ref (a0 0)), (1, .int p1), (2, .int v2)]) (st' := [.int v2, .ref (a0 12)]) (decB_ok (by decide +kernel)) rfl rfl ?_
      refine V_put C (v := .int v2) (ws' := wdX E.G a0 (xs_trial S0 (hs_warmth q5 v2))) (by decide +kernel) 12 7 pk_RX4_275 rfl rfl rfl (Nat.le_of_ble_eq_true rfl) rfl ?_
      refine V_pb C hn [(.aload_n 0, 1)] (pc' := 41) (ls' := [(0, .ref (a0 0)), (1, .int p1), (2, .int v2)]) (st' := [.ref (a0 0)]) (decB_ok (by decide +kernel)) rfl rfl ?_
      refine V_get C (v := .ref (a0 12)) (by decide +kernel) 0 2 fk_RX4_19 rfl rfl ?_
      refine V_pb C hn [(.iload_n 1, 1)] (pc' := 45) (ls' := [(0, .ref (a0 0)), (1, .int p1), (2, .int v2)]) (st' := [.int p1, .ref (a0 12)]) (decB_ok (by decide +kernel)) rfl rfl ?_
      obtain ⟨q7, h8, h⟩ := bnd h
      refine V_callV (ws' := wdX E.G a0 (xs_trial S0 q7)) C (As := [.int p1]) (rest := []) (by decide +kernel) ok_yX1_goOn mk_RX4_229 (cfX1_goOn (l := E.l) (G := E.G) (fun j => a0 (12 + j)) h8) [12, 13, 14, 15] (q0 := 0) rfl rfl rfl rfl rfl rfl rfl rfl rfl (Nat.le_of_ble_eq_true rfl) (Nat.le_of_ble_eq_true rfl) (Nat.le_of_ble_eq_true rfl) ?_
      show V E _ (wdX E.G a0 (xs_trial S0 q7)) 48 [(0, .ref (a0 0)), (1, .int p1), (2, .int v2)] []
      refine V_pb C hn [(.aload_n 0, 1)] (pc' := 49) (ls' := [(0, .ref (a0 0)), (1, .int p1), (2, .int v2)]) (st' := [.ref (a0 0)]) (decB_ok (by decide +kernel)) rfl rfl ?_
      refine V_get C (v := .ref (a0 12)) (by decide +kernel) 0 2 fk_RX4_19 rfl rfl ?_
      obtain ⟨q9, h10, h⟩ := bnd h
      refine V_callVp C (As := []) (rest := []) (by decide +kernel) ok_yX1_carries mk_RX4_208 (cfX1_carries (l := E.l) (G := E.G) (fun j => a0 (12 + j)) h10) [12, 13, 14, 15] (q0 := 0) rfl rfl rfl rfl rfl rfl rfl (Nat.le_of_ble_eq_true rfl) (Nat.le_of_ble_eq_true rfl) (Nat.le_of_ble_eq_true rfl) ?_
      show V E _ (wdX E.G a0 (xs_trial S0 q7)) 55 [(0, .ref (a0 0)), (1, .int p1), (2, .int v2)] [.int q9]
      refine V_if_eq C (off := 5) (tgt := 60) (by decide +kernel) (by decide) h (fun _ h => ?_) (fun _ h => ?_)
      · refine V_pb C hn [(.iinc 2 5, 3)] (pc' := 63) (ls' := [(0, .ref (a0 0)), (1, .int p1), (2, .int (v2 + (5 : Int32)))]) (st' := []) (decB_ok (by decide +kernel)) rfl rfl ?_
        refine V_goto C (off := -47) (tgt := 16) (by decide +kernel) (by decide) ?_
        refine V_sub (ls' := [(0, .ref (a0 0)), (1, .int p1), (2, .int (v2 + (5 : Int32)))]) rfl ?_
        exact ih _ _ h
      · refine V_pb C hn [(.iload_n 2, 1)] (pc' := 59) (ls' := [(0, .ref (a0 0)), (1, .int p1), (2, .int v2)]) (st' := [.int v2]) (decB_ok (by decide +kernel)) rfl rfl ?_
        have h := Option.some.inj h
        subst h
        exact V_iret C (by decide +kernel) rfl
set_option maxRecDepth 100000 in
set_option maxHeartbeats 400000 in
theorem cfX4_warmthFor {l : Launch} {G : GG} (a0 : Nat → Nat) {p1 : Int32} {S0 : XT} {out : Int32 × XT} (h : fX4_warmthFor p1 S0 = some out) : Con l G 4 yX4_warmthFor cX4_warmthFor 3 (some .int) [.ref (a0 0), .int p1] (wdX G a0 S0) (some (.int out.1)) (wdX G a0 out.2) := by
  refine Con_of (by decide +kernel) (Nat.le_of_ble_eq_true rfl) (fun E hl hG hn C => ?_)
  subst hl
  subst hG
  have C : Ctx E cX4_warmthFor RX4 4 (some .int) := C
  show V E _ _ 0 [(0, .ref (a0 0)), (1, .int p1)] []
  unfold fX4_warmthFor at h
  refine V_pb C hn [(.iload_n 1, 1)] (pc' := 1) (ls' := [(0, .ref (a0 0)), (1, .int p1)]) (st' := [.int p1]) (decB_ok (by decide +kernel)) rfl rfl ?_
  obtain ⟨q1, h2, h⟩ := bnd h
  refine V_callSp C (As := [.int p1]) (rest := []) (by decide +kernel) ok_yX4_isTime mk_RX4_194 (cfX4_isTime (l := E.l) (G := E.G) h2) [] rfl rfl rfl rfl (Nat.le_of_ble_eq_true rfl) (Nat.le_of_ble_eq_true rfl) (Nat.le_of_ble_eq_true rfl) ?_
  show V E _ (wdX E.G a0 S0) 4 [(0, .ref (a0 0)), (1, .int p1)] [.int q1]
  refine V_if_ne C (off := 10) (tgt := 14) (by decide +kernel) (by decide) h (fun _ h => ?_) (fun _ h => ?_)
  · refine V_pb C hn [(.aload_n 0, 1), (.bipush (-2), 2)] (pc' := 10) (ls' := [(0, .ref (a0 0)), (1, .int p1)]) (st' := [.int (cI (-2)), .ref (a0 0)]) (decB_ok (by decide +kernel)) rfl rfl ?_
    obtain ⟨q3, h4, h⟩ := bnd h
    refine V_callV0 C (As := [.int (cI (-2))]) (rest := []) (by decide +kernel) ok_yX4_refuse mk_RX4_57 (cfX4_refuse (l := E.l) (G := E.G) a0 h4) (q0 := 0) rfl rfl rfl rfl rfl rfl (Nat.le_of_ble_eq_true rfl) (Nat.le_of_ble_eq_true rfl) (Nat.le_of_ble_eq_true rfl) ?_
    show V E _ (wdX E.G a0 q3.2) 13 [(0, .ref (a0 0)), (1, .int p1)] [.int q3.1]
    have h := Option.some.inj h
    subst h
    exact V_iret C (by decide +kernel) rfl
  · refine V_pb C hn [(.iconst 0, 1), (.istore_n 2, 1)] (pc' := 16) (ls' := [(0, .ref (a0 0)), (1, .int p1), (2, .int (0 : Int32))]) (st' := []) (decB_ok (by decide +kernel)) rfl rfl ?_
    refine V_sub (ls' := [(0, .ref (a0 0)), (1, .int p1), (2, .int (0 : Int32))]) rfl ?_
    exact cfX4_warmthFor_L16 C hn FU _ _ h
set_option maxRecDepth 100000 in
set_option maxHeartbeats 400000 in
theorem cfX4_bestCell_j15 {E : VE} (C : Ctx E cX4_bestCell RX4 4 (some .int)) (hn : E.nL = 10) {a0 : Nat → Nat} {p1 : Int32} {p2 : Int32} {S0 : XT} {out : Int32 × XT} (h : fX4_bestCell_j15 p1 p2 S0 = some out) : V E (QR E (some (.int out.1)) (wdX E.G a0 out.2)) (wdX E.G a0 S0) 15 [(0, .ref (a0 0))] [] := by
  unfold fX4_bestCell_j15 at h
  refine V_pb C hn [(.aload_n 0, 1), (.bipush (-2), 2)] (pc' := 18) (ls' := [(0, .ref (a0 0))]) (st' := [.int (cI (-2)), .ref (a0 0)]) (decB_ok (by decide +kernel)) rfl rfl ?_
  obtain ⟨q3, h4, h⟩ := bnd h
  refine V_callV0 C (As := [.int (cI (-2))]) (rest := []) (by decide +kernel) ok_yX4_refuse mk_RX4_57 (cfX4_refuse (l := E.l) (G := E.G) a0 h4) (q0 := 0) rfl rfl rfl rfl rfl rfl (Nat.le_of_ble_eq_true rfl) (Nat.le_of_ble_eq_true rfl) (Nat.le_of_ble_eq_true rfl) ?_
  show V E _ (wdX E.G a0 q3.2) 21 [(0, .ref (a0 0))] [.int q3.1]
  have h := Option.some.inj h
  subst h
  exact V_iret C (by decide +kernel) rfl
set_option maxRecDepth 100000 in
set_option maxHeartbeats 400000 in
theorem cfX4_bestCell_j117 {E : VE} (C : Ctx E cX4_bestCell RX4 4 (some .int)) (hn : E.nL = 10) {a0 : Nat → Nat} {p1 : Int32} {p2 : Int32} {v3 : Int32} {v4 : Int32} {v5 : Int32} {v6 : Int32} {S0 : XT} {out : Int32 × XT} {k30 : Int32 → Int32 → Int32 → XT → Option (Int32 × XT)} (hk30 : ∀ (v3 : Int32) (v4 : Int32) (v5 : Int32) (S0 : XT), k30 v3 v4 v5 S0 = some out → V E (QR E (some (.int out.1)) (wdX E.G a0 out.2)) (wdX E.G a0 S0) 30 [(0, .ref (a0 0)), (1, .int p1), (2, .int p2), (3, .int v3), (4, .int v4), (5, .int v5)] []) {k45 : Int32 → Int32 → Int32 → Int32 → XT → Option (Int32 × XT)} (hk45 : ∀ (v3 : Int32) (v4 : Int32) (v5 : Int32) (v6 : Int32) (S0 : XT), k45 v3 v4 v5 v6 S0 = some out → V E (QR E (some (.int out.1)) (wdX E.G a0 out.2)) (wdX E.G a0 S0) 45 [(0, .ref (a0 0)), (1, .int p1), (2, .int p2), (3, .int v3), (4, .int v4), (5, .int v5), (6, .int v6)] []) (h : fX4_bestCell_j117 k30 k45 p1 p2 v3 v4 v5 v6 S0 = some out) : V E (QR E (some (.int out.1)) (wdX E.G a0 out.2)) (wdX E.G a0 S0) 117 [(0, .ref (a0 0)), (1, .int p1), (2, .int p2), (3, .int v3), (4, .int v4), (5, .int v5), (6, .int v6)] [] := by
  unfold fX4_bestCell_j117 at h
  refine V_pb C hn [(.iinc 6 1, 3)] (pc' := 120) (ls' := [(0, .ref (a0 0)), (1, .int p1), (2, .int p2), (3, .int v3), (4, .int v4), (5, .int v5), (6, .int (v6 + (1 : Int32)))]) (st' := []) (decB_ok (by decide +kernel)) rfl rfl ?_
  refine V_goto C (off := -75) (tgt := 45) (by decide +kernel) (by decide) ?_
  refine V_sub (ls' := [(0, .ref (a0 0)), (1, .int p1), (2, .int p2), (3, .int v3), (4, .int v4), (5, .int v5), (6, .int (v6 + (1 : Int32)))]) rfl ?_
  exact hk45 _ _ _ _ _ h
set_option maxRecDepth 100000 in
set_option maxHeartbeats 400000 in
theorem cfX4_bestCell_j102 {E : VE} (C : Ctx E cX4_bestCell RX4 4 (some .int)) (hn : E.nL = 10) {a0 : Nat → Nat} {p1 : Int32} {p2 : Int32} {v3 : Int32} {v4 : Int32} {v5 : Int32} {v6 : Int32} {v7 : Int32} {s0 : Int32} {S0 : XT} {out : Int32 × XT} {k30 : Int32 → Int32 → Int32 → XT → Option (Int32 × XT)} (hk30 : ∀ (v3 : Int32) (v4 : Int32) (v5 : Int32) (S0 : XT), k30 v3 v4 v5 S0 = some out → V E (QR E (some (.int out.1)) (wdX E.G a0 out.2)) (wdX E.G a0 S0) 30 [(0, .ref (a0 0)), (1, .int p1), (2, .int p2), (3, .int v3), (4, .int v4), (5, .int v5)] []) {k45 : Int32 → Int32 → Int32 → Int32 → XT → Option (Int32 × XT)} (hk45 : ∀ (v3 : Int32) (v4 : Int32) (v5 : Int32) (v6 : Int32) (S0 : XT), k45 v3 v4 v5 v6 S0 = some out → V E (QR E (some (.int out.1)) (wdX E.G a0 out.2)) (wdX E.G a0 S0) 45 [(0, .ref (a0 0)), (1, .int p1), (2, .int p2), (3, .int v3), (4, .int v4), (5, .int v5), (6, .int v6)] []) (h : fX4_bestCell_j102 k30 k45 p1 p2 v3 v4 v5 v6 v7 s0 S0 = some out) : V E (QR E (some (.int out.1)) (wdX E.G a0 out.2)) (wdX E.G a0 S0) 102 [(0, .ref (a0 0)), (1, .int p1), (2, .int p2), (3, .int v3), (4, .int v4), (5, .int v5), (6, .int v6), (7, .int v7)] [.int s0] := by
  unfold fX4_bestCell_j102 at h
  refine V_pb C hn [(.istore 9, 2), (.iload 9, 2), (.iload_n 3, 1)] (pc' := 107) (ls' := [(0, .ref (a0 0)), (1, .int p1), (2, .int p2), (3, .int v3), (4, .int v4), (5, .int v5), (6, .int v6), (7, .int v7), (9, .int s0)]) (st' := [.int v3, .int s0]) (decB_ok (by decide +kernel)) rfl rfl ?_
  refine V_ic_le C (off := 10) (tgt := 117) (by decide +kernel) (by decide) h (fun _ h => ?_) (fun _ h => ?_)
  · refine V_sub (ls' := [(0, .ref (a0 0)), (1, .int p1), (2, .int p2), (3, .int v3), (4, .int v4), (5, .int v5), (6, .int v6)]) rfl ?_
    exact cfX4_bestCell_j117 C hn (k30 := k30) (hk30) (k45 := k45) (hk45) h
  · refine V_pb C hn [(.iload 9, 2), (.istore_n 3, 1), (.iload 7, 2), (.istore 4, 2)] (pc' := 117) (ls' := [(0, .ref (a0 0)), (1, .int p1), (2, .int p2), (3, .int s0), (4, .int v7), (5, .int v5), (6, .int v6), (7, .int v7), (9, .int s0)]) (st' := []) (decB_ok (by decide +kernel)) rfl rfl ?_
    refine V_sub (ls' := [(0, .ref (a0 0)), (1, .int p1), (2, .int p2), (3, .int s0), (4, .int v7), (5, .int v5), (6, .int v6)]) rfl ?_
    exact cfX4_bestCell_j117 C hn (k30 := k30) (hk30) (k45 := k45) (hk45) h
set_option maxRecDepth 100000 in
set_option maxHeartbeats 400000 in
theorem cfX4_bestCell_L45 {E : VE} (C : Ctx E cX4_bestCell RX4 4 (some .int)) (hn : E.nL = 10) {a0 : Nat → Nat} {p1 : Int32} {p2 : Int32} {out : Int32 × XT} {k30 : Int32 → Int32 → Int32 → XT → Option (Int32 × XT)} (hk30 : ∀ (v3 : Int32) (v4 : Int32) (v5 : Int32) (S0 : XT), k30 v3 v4 v5 S0 = some out → V E (QR E (some (.int out.1)) (wdX E.G a0 out.2)) (wdX E.G a0 S0) 30 [(0, .ref (a0 0)), (1, .int p1), (2, .int p2), (3, .int v3), (4, .int v4), (5, .int v5)] []) : ∀ (n : Nat) (v3 : Int32) (v4 : Int32) (v5 : Int32) (v6 : Int32) (S0 : XT), fX4_bestCell_L45 k30 p1 p2 n v3 v4 v5 v6 S0 = some out → V E (QR E (some (.int out.1)) (wdX E.G a0 out.2)) (wdX E.G a0 S0) 45 [(0, .ref (a0 0)), (1, .int p1), (2, .int p2), (3, .int v3), (4, .int v4), (5, .int v5), (6, .int v6)] [] := by
  intro n
  induction n with
  | zero =>
    intro v3 v4 v5 v6 S0 h
    cases h
  | succ n ih =>
    intro v3 v4 v5 v6 S0 h
    unfold fX4_bestCell_L45 at h
    refine V_pb C hn [(.iload 6, 2), (.aload_n 0, 1)] (pc' := 48) (ls' := [(0, .ref (a0 0)), (1, .int p1), (2, .int p2), (3, .int v3), (4, .int v4), (5, .int v5), (6, .int v6)]) (st' := [.ref (a0 0), .int v6]) (decB_ok (by decide +kernel)) rfl rfl ?_
    refine V_get C (v := .ref (a0 4)) (by decide +kernel) 0 0 fk_RX4_12 rfl rfl ?_
    refine V_get C (v := .int (h_side (x_now S0))) (by decide +kernel) 4 0 fk_RX4_132 rfl rfl ?_
    refine V_ic_ge C (off := 69) (tgt := 123) (by decide +kernel) (by decide) h (fun _ h => ?_) (fun _ h => ?_)
    · refine V_pb C hn [(.iinc 5 1, 3)] (pc' := 126) (ls' := [(0, .ref (a0 0)), (1, .int p1), (2, .int p2), (3, .int v3), (4, .int v4), (5, .int (v5 + (1 : Int32))), (6, .int v6)]) (st' := []) (decB_ok (by decide +kernel)) rfl rfl ?_
      refine V_goto C (off := -96) (tgt := 30) (by decide +kernel) (by decide) ?_
      refine V_sub (ls' := [(0, .ref (a0 0)), (1, .int p1), (2, .int p2), (3, .int v3), (4, .int v4), (5, .int (v5 + (1 : Int32)))]) rfl ?_
      exact hk30 _ _ _ _ h
    · refine V_pb C hn [(.bipush 10, 2), (.iload 5, 2), (.imul, 1), (.iload 6, 2), (.iadd, 1), (.istore 7, 2), (.aload_n 0, 1), (.iload_n 1, 1), (.iload 7, 2), (.iload_n 2, 1)] (pc' := 72) (ls' := [(0, .ref (a0 0)), (1, .int p1), (2, .int p2), (3, .int v3), (4, .int v4), (5, .int v5), (6, .int v6), (7, .int (((10 : Int32) * v5) + v6))]) (st' := [.int p2, .int (((10 : Int32) * v5) + v6), .int p1, .ref (a0 0)]) (decB_ok (by decide +kernel)) rfl rfl ?_
      obtain ⟨q7, h8, h⟩ := bnd h
      refine V_callV0 C (As := [.int p1, .int (((10 : Int32) * v5) + v6), .int p2]) (rest := []) (by decide +kernel) ok_yX4_walked mk_RX4_197 (cfX4_walked (l := E.l) (G := E.G) a0 h8) (q0 := 0) rfl rfl rfl rfl rfl rfl (Nat.le_of_ble_eq_true rfl) (Nat.le_of_ble_eq_true rfl) (Nat.le_of_ble_eq_true rfl) ?_
      show V E _ (wdX E.G a0 q7.2) 75 [(0, .ref (a0 0)), (1, .int p1), (2, .int p2), (3, .int v3), (4, .int v4), (5, .int v5), (6, .int v6), (7, .int (((10 : Int32) * v5) + v6))] [.int q7.1]
      refine V_pb C hn [(.istore 8, 2), (.aload_n 0, 1)] (pc' := 78) (ls' := [(0, .ref (a0 0)), (1, .int p1), (2, .int p2), (3, .int v3), (4, .int v4), (5, .int v5), (6, .int v6), (7, .int (((10 : Int32) * v5) + v6)), (8, .int q7.1)]) (st' := [.ref (a0 0)]) (decB_ok (by decide +kernel)) rfl rfl ?_
      refine V_get C (v := .ref (a0 12)) (by decide +kernel) 0 2 fk_RX4_19 rfl rfl ?_
      refine V_pb C hn [(.iload 8, 2)] (pc' := 83) (ls' := [(0, .ref (a0 0)), (1, .int p1), (2, .int p2), (3, .int v3), (4, .int v4), (5, .int v5), (6, .int v6), (7, .int (((10 : Int32) * v5) + v6)), (8, .int q7.1)]) (st' := [.int q7.1, .ref (a0 12)]) (decB_ok (by decide +kernel)) rfl rfl ?_
      obtain ⟨q9, h10, h⟩ := bnd h
      refine V_callVp C (As := [.int q7.1]) (rest := []) (by decide +kernel) ok_yX1_isLit mk_RX4_181 (cfX1_isLit (l := E.l) (G := E.G) (fun j => a0 (12 + j)) h10) [12, 13, 14, 15] (q0 := 0) rfl rfl rfl rfl rfl rfl rfl (Nat.le_of_ble_eq_true rfl) (Nat.le_of_ble_eq_true rfl) (Nat.le_of_ble_eq_true rfl) ?_
      show V E _ (wdX E.G a0 q7.2) 86 [(0, .ref (a0 0)), (1, .int p1), (2, .int p2), (3, .int v3), (4, .int v4), (5, .int v5), (6, .int v6), (7, .int (((10 : Int32) * v5) + v6)), (8, .int q7.1)] [.int q9]
      refine V_if_eq C (off := 15) (tgt := 101) (by decide +kernel) (by decide) h (fun _ h => ?_) (fun _ h => ?_)
      · refine V_pb C hn [(.iconst 0, 1)] (pc' := 102) (ls' := [(0, .ref (a0 0)), (1, .int p1), (2, .int p2), (3, .int v3), (4, .int v4), (5, .int v5), (6, .int v6), (7, .int (((10 : Int32) * v5) + v6)), (8, .int q7.1)]) (st' := [.int (0 : Int32)]) (decB_ok (by decide +kernel)) rfl rfl ?_
        refine V_sub (ls' := [(0, .ref (a0 0)), (1, .int p1), (2, .int p2), (3, .int v3), (4, .int v4), (5, .int v5), (6, .int v6), (7, .int (((10 : Int32) * v5) + v6))]) rfl ?_
        exact cfX4_bestCell_j102 C hn (k30 := k30) (hk30) (k45 := (fun v3 v4 v5 v6 S0 => fX4_bestCell_L45 k30 p1 p2 n v3 v4 v5 v6 S0)) (fun v3 v4 v5 v6 S0 h => ih v3 v4 v5 v6 S0 h) h
      · refine V_pb C hn [(.aload_n 0, 1)] (pc' := 90) (ls' := [(0, .ref (a0 0)), (1, .int p1), (2, .int p2), (3, .int v3), (4, .int v4), (5, .int v5), (6, .int v6), (7, .int (((10 : Int32) * v5) + v6)), (8, .int q7.1)]) (st' := [.ref (a0 0)]) (decB_ok (by decide +kernel)) rfl rfl ?_
        refine V_get C (v := .ref (a0 4)) (by decide +kernel) 0 0 fk_RX4_12 rfl rfl ?_
        refine V_get C (v := .ref (a0 6)) (by decide +kernel) 4 3 fk_RX4_119 rfl rfl ?_
        refine V_pb C hn [(.iload_n 1, 1)] (pc' := 97) (ls' := [(0, .ref (a0 0)), (1, .int p1), (2, .int p2), (3, .int v3), (4, .int v4), (5, .int v5), (6, .int v6), (7, .int (((10 : Int32) * v5) + v6)), (8, .int q7.1)]) (st' := [.int p1, .ref (a0 6)]) (decB_ok (by decide +kernel)) rfl rfl ?_
        refine V_iald C (f := (h_weightOf (x_now q7.2))) (by decide +kernel) 6 rfl h (fun h => ?_)
        refine V_goto C (off := 4) (tgt := 102) (by decide +kernel) (by decide) ?_
        refine V_sub (ls' := [(0, .ref (a0 0)), (1, .int p1), (2, .int p2), (3, .int v3), (4, .int v4), (5, .int v5), (6, .int v6), (7, .int (((10 : Int32) * v5) + v6))]) rfl ?_
        exact cfX4_bestCell_j102 C hn (k30 := k30) (hk30) (k45 := (fun v3 v4 v5 v6 S0 => fX4_bestCell_L45 k30 p1 p2 n v3 v4 v5 v6 S0)) (fun v3 v4 v5 v6 S0 h => ih v3 v4 v5 v6 S0 h) h
set_option maxRecDepth 100000 in
set_option maxHeartbeats 400000 in
theorem cfX4_bestCell_L30 {E : VE} (C : Ctx E cX4_bestCell RX4 4 (some .int)) (hn : E.nL = 10) {a0 : Nat → Nat} {p1 : Int32} {p2 : Int32} {out : Int32 × XT} : ∀ (n : Nat) (v3 : Int32) (v4 : Int32) (v5 : Int32) (S0 : XT), fX4_bestCell_L30 p1 p2 n v3 v4 v5 S0 = some out → V E (QR E (some (.int out.1)) (wdX E.G a0 out.2)) (wdX E.G a0 S0) 30 [(0, .ref (a0 0)), (1, .int p1), (2, .int p2), (3, .int v3), (4, .int v4), (5, .int v5)] [] := by
  intro n
  induction n with
  | zero =>
    intro v3 v4 v5 S0 h
    cases h
  | succ n ih =>
    intro v3 v4 v5 S0 h
    unfold fX4_bestCell_L30 at h
    refine V_pb C hn [(.iload 5, 2), (.aload_n 0, 1)] (pc' := 33) (ls' := [(0, .ref (a0 0)), (1, .int p1), (2, .int p2), (3, .int v3), (4, .int v4), (5, .int v5)]) (st' := [.ref (a0 0), .int v5]) (decB_ok (by decide +kernel)) rfl rfl ?_
    refine V_get C (v := .ref (a0 4)) (by decide +kernel) 0 0 fk_RX4_12 rfl rfl ?_
    refine V_get C (v := .int (h_side (x_now S0))) (by decide +kernel) 4 0 fk_RX4_132 rfl rfl ?_
    refine V_ic_ge C (off := 90) (tgt := 129) (by decide +kernel) (by decide) h (fun _ h => ?_) (fun _ h => ?_)
    · refine V_pb C hn [(.iload 4, 2)] (pc' := 131) (ls' := [(0, .ref (a0 0)), (1, .int p1), (2, .int p2), (3, .int v3), (4, .int v4), (5, .int v5)]) (st' := [.int v4]) (decB_ok (by decide +kernel)) rfl rfl ?_
      have h := Option.some.inj h
      subst h
      exact V_iret C (by decide +kernel) rfl
    · refine V_pb C hn [(.iconst 0, 1), (.istore 6, 2)] (pc' := 45) (ls' := [(0, .ref (a0 0)), (1, .int p1), (2, .int p2), (3, .int v3), (4, .int v4), (5, .int v5), (6, .int (0 : Int32))]) (st' := []) (decB_ok (by decide +kernel)) rfl rfl ?_
      refine V_sub (ls' := [(0, .ref (a0 0)), (1, .int p1), (2, .int p2), (3, .int v3), (4, .int v4), (5, .int v5), (6, .int (0 : Int32))]) rfl ?_
      exact cfX4_bestCell_L45 C hn (k30 := (fun v3 v4 v5 S0 => fX4_bestCell_L30 p1 p2 n v3 v4 v5 S0)) (fun v3 v4 v5 S0 h => ih v3 v4 v5 S0 h) FU _ _ _ _ _ h
set_option maxRecDepth 100000 in
set_option maxHeartbeats 400000 in
theorem cfX4_bestCell {l : Launch} {G : GG} (a0 : Nat → Nat) {p1 : Int32} {p2 : Int32} {S0 : XT} {out : Int32 × XT} (h : fX4_bestCell p1 p2 S0 = some out) : Con l G 4 yX4_bestCell cX4_bestCell 10 (some .int) [.ref (a0 0), .int p1, .int p2] (wdX G a0 S0) (some (.int out.1)) (wdX G a0 out.2) := by
  refine Con_of (by decide +kernel) (Nat.le_of_ble_eq_true rfl) (fun E hl hG hn C => ?_)
  subst hl
  subst hG
  have C : Ctx E cX4_bestCell RX4 4 (some .int) := C
  show V E _ _ 0 [(0, .ref (a0 0)), (1, .int p1), (2, .int p2)] []
  unfold fX4_bestCell at h
  refine V_pb C hn [(.aload_n 0, 1), (.iload_n 1, 1)] (pc' := 2) (ls' := [(0, .ref (a0 0)), (1, .int p1), (2, .int p2)]) (st' := [.int p1, .ref (a0 0)]) (decB_ok (by decide +kernel)) rfl rfl ?_
  obtain ⟨q1, h2, h⟩ := bnd h
  refine V_callV0 C (As := [.int p1]) (rest := []) (by decide +kernel) ok_yX4_isMote mk_RX4_100 (cfX4_isMote (l := E.l) (G := E.G) a0 h2) (q0 := 0) rfl rfl rfl rfl rfl rfl (Nat.le_of_ble_eq_true rfl) (Nat.le_of_ble_eq_true rfl) (Nat.le_of_ble_eq_true rfl) ?_
  show V E _ (wdX E.G a0 S0) 5 [(0, .ref (a0 0)), (1, .int p1), (2, .int p2)] [.int q1]
  refine V_if_eq C (off := 10) (tgt := 15) (by decide +kernel) (by decide) h (fun _ h => ?_) (fun _ h => ?_)
  · refine V_sub (ls' := [(0, .ref (a0 0))]) rfl ?_
    exact cfX4_bestCell_j15 C hn h
  · refine V_pb C hn [(.iload_n 2, 1)] (pc' := 9) (ls' := [(0, .ref (a0 0)), (1, .int p1), (2, .int p2)]) (st' := [.int p2]) (decB_ok (by decide +kernel)) rfl rfl ?_
    obtain ⟨q5, h6, h⟩ := bnd h
    refine V_callSp C (As := [.int p2]) (rest := []) (by decide +kernel) ok_yX4_isTime mk_RX4_194 (cfX4_isTime (l := E.l) (G := E.G) h6) [] rfl rfl rfl rfl (Nat.le_of_ble_eq_true rfl) (Nat.le_of_ble_eq_true rfl) (Nat.le_of_ble_eq_true rfl) ?_
    show V E _ (wdX E.G a0 S0) 12 [(0, .ref (a0 0)), (1, .int p1), (2, .int p2)] [.int q5]
    refine V_if_ne C (off := 10) (tgt := 22) (by decide +kernel) (by decide) h (fun _ h => ?_) (fun _ h => ?_)
    · refine V_sub (ls' := [(0, .ref (a0 0))]) rfl ?_
      exact cfX4_bestCell_j15 C hn h
    · refine V_pb C hn [(.iconst (-1), 1), (.istore_n 3, 1), (.iconst 0, 1), (.istore 4, 2), (.iconst 0, 1), (.istore 5, 2)] (pc' := 30) (ls' := [(0, .ref (a0 0)), (1, .int p1), (2, .int p2), (3, .int (cI (-1))), (4, .int (0 : Int32)), (5, .int (0 : Int32))]) (st' := []) (decB_ok (by decide +kernel)) rfl rfl ?_
      refine V_sub (ls' := [(0, .ref (a0 0)), (1, .int p1), (2, .int p2), (3, .int (cI (-1))), (4, .int (0 : Int32)), (5, .int (0 : Int32))]) rfl ?_
      exact cfX4_bestCell_L30 C hn FU _ _ _ _ h
set_option maxRecDepth 100000 in
set_option maxHeartbeats 400000 in
theorem cfX4_odds_j18 {E : VE} (C : Ctx E cX4_odds RX4 16 (some .int)) (hn : E.nL = 3) {a0 : Nat → Nat} {p1 : Int32} {p2 : Int32} {S0 : XT} {out : Int32 × XT} (h : fX4_odds_j18 p1 p2 S0 = some out) : V E (QR E (some (.int out.1)) (wdX E.G a0 out.2)) (wdX E.G a0 S0) 18 [(0, .ref (a0 0))] [] := by
  unfold fX4_odds_j18 at h
  refine V_pb C hn [(.aload_n 0, 1), (.bipush (-2), 2)] (pc' := 21) (ls' := [(0, .ref (a0 0))]) (st' := [.int (cI (-2)), .ref (a0 0)]) (decB_ok (by decide +kernel)) rfl rfl ?_
  obtain ⟨q1, h2, h⟩ := bnd h
  refine V_callV0 C (As := [.int (cI (-2))]) (rest := []) (by decide +kernel) ok_yX4_refuse mk_RX4_57 (cfX4_refuse (l := E.l) (G := E.G) a0 h2) (q0 := 0) rfl rfl rfl rfl rfl rfl (Nat.le_of_ble_eq_true rfl) (Nat.le_of_ble_eq_true rfl) (Nat.le_of_ble_eq_true rfl) ?_
  show V E _ (wdX E.G a0 q1.2) 24 [(0, .ref (a0 0))] [.int q1.1]
  have h := Option.some.inj h
  subst h
  exact V_iret C (by decide +kernel) rfl
set_option maxRecDepth 100000 in
set_option maxHeartbeats 400000 in
theorem cfX4_odds {l : Launch} {G : GG} (a0 : Nat → Nat) {p1 : Int32} {p2 : Int32} {S0 : XT} {out : Int32 × XT} (h : fX4_odds p1 p2 S0 = some out) : Con l G 16 yX4_odds cX4_odds 3 (some .int) [.ref (a0 0), .int p1, .int p2] (wdX G a0 S0) (some (.int out.1)) (wdX G a0 out.2) := by
  refine Con_of (by decide +kernel) (Nat.le_of_ble_eq_true rfl) (fun E hl hG hn C => ?_)
  subst hl
  subst hG
  have C : Ctx E cX4_odds RX4 16 (some .int) := C
  show V E _ _ 0 [(0, .ref (a0 0)), (1, .int p1), (2, .int p2)] []
  unfold fX4_odds at h
  refine V_pb C hn [(.iload_n 1, 1)] (pc' := 1) (ls' := [(0, .ref (a0 0)), (1, .int p1), (2, .int p2)]) (st' := [.int p1]) (decB_ok (by decide +kernel)) rfl rfl ?_
  refine V_if_lt C (off := 17) (tgt := 18) (by decide +kernel) (by decide) h (fun _ h => ?_) (fun _ h => ?_)
  · refine V_sub (ls' := [(0, .ref (a0 0))]) rfl ?_
    exact cfX4_odds_j18 C hn h
  · refine V_pb C hn [(.iload_n 1, 1), (.iconst 3, 1)] (pc' := 6) (ls' := [(0, .ref (a0 0)), (1, .int p1), (2, .int p2)]) (st' := [.int (3 : Int32), .int p1]) (decB_ok (by decide +kernel)) rfl rfl ?_
    refine V_ic_gt C (off := 12) (tgt := 18) (by decide +kernel) (by decide) h (fun _ h => ?_) (fun _ h => ?_)
    · refine V_sub (ls' := [(0, .ref (a0 0))]) rfl ?_
      exact cfX4_odds_j18 C hn h
    · refine V_pb C hn [(.iload_n 2, 1)] (pc' := 10) (ls' := [(0, .ref (a0 0)), (1, .int p1), (2, .int p2)]) (st' := [.int p2]) (decB_ok (by decide +kernel)) rfl rfl ?_
      refine V_if_lt C (off := 8) (tgt := 18) (by decide +kernel) (by decide) h (fun _ h => ?_) (fun _ h => ?_)
      · refine V_sub (ls' := [(0, .ref (a0 0))]) rfl ?_
        exact cfX4_odds_j18 C hn h
      · refine V_pb C hn [(.iload_n 2, 1), (.iconst 1, 1)] (pc' := 15) (ls' := [(0, .ref (a0 0)), (1, .int p1), (2, .int p2)]) (st' := [.int (1 : Int32), .int p2]) (decB_ok (by decide +kernel)) rfl rfl ?_
        refine V_ic_le C (off := 10) (tgt := 25) (by decide +kernel) (by decide) h (fun _ h => ?_) (fun _ h => ?_)
        · refine V_pb C hn [(.aload_n 0, 1)] (pc' := 26) (ls' := [(0, .ref (a0 0)), (1, .int p1), (2, .int p2)]) (st' := [.ref (a0 0)]) (decB_ok (by decide +kernel)) rfl rfl ?_
          refine V_get C (v := .ref (a0 18)) (by decide +kernel) 0 6 fk_RX4_38 rfl rfl ?_
          refine V_pb C hn [(.aload_n 0, 1)] (pc' := 30) (ls' := [(0, .ref (a0 0)), (1, .int p1), (2, .int p2)]) (st' := [.ref (a0 0), .ref (a0 18)]) (decB_ok (by decide +kernel)) rfl rfl ?_
          refine V_get C (v := .ref (a0 4)) (by decide +kernel) 0 0 fk_RX4_12 rfl rfl ?_
          refine V_pb C hn [(.iload_n 1, 1)] (pc' := 34) (ls' := [(0, .ref (a0 0)), (1, .int p1), (2, .int p2)]) (st' := [.int p1, .ref (a0 4), .ref (a0 18)]) (decB_ok (by decide +kernel)) rfl rfl ?_
          obtain ⟨q3, h4, h⟩ := bnd h
          rw [← wdXa_eq (S := S0)]
          refine V_callV (ws' := wdXa E.G a0 (xs_dr S0 q3)) C (As := [.ref (a0 4), .int p1]) (rest := []) (by decide +kernel) ok_yX0_reckon mk_RX4_278 (cfX0_reckon (l := E.l) (G := E.G) (fun j => a0 (18 + j)) (fun j => a0 (4 + j)) h4) [18, 19, 20, 21, 22, 23, 24, 25, 26, 27, 28, 29, 30, 31, 32, 33, 34, 35, 4, 5, 6, 7] (q0 := 0) rfl rfl rfl rfl odds_hw rfl rfl rfl rfl (Nat.le_of_ble_eq_true rfl) (Nat.le_of_ble_eq_true rfl) (Nat.le_of_ble_eq_true rfl) ?_
          show V E _ (wdXa E.G a0 (xs_dr S0 q3)) 37 [(0, .ref (a0 0)), (1, .int p1), (2, .int p2)] []
          rw [wdXa_eq]
          refine V_pb C hn [(.iload_n 2, 1)] (pc' := 38) (ls' := [(0, .ref (a0 0)), (1, .int p1), (2, .int p2)]) (st' := [.int p2]) (decB_ok (by decide +kernel)) rfl rfl ?_
          refine V_if_ne C (off := 13) (tgt := 51) (by decide +kernel) (by decide) h (fun _ h => ?_) (fun _ h => ?_)
          · refine V_pb C hn [(.aload_n 0, 1)] (pc' := 42) (ls' := [(0, .ref (a0 0)), (1, .int p1), (2, .int p2)]) (st' := [.ref (a0 0)]) (decB_ok (by decide +kernel)) rfl rfl ?_
            refine V_get C (v := .ref (a0 18)) (by decide +kernel) 0 6 fk_RX4_38 rfl rfl ?_
            obtain ⟨q5, h6, h⟩ := bnd h
            rw [← wdXa_eq (S := xs_dr S0 q3)]
            refine V_callVp C (As := []) (rest := []) (by decide +kernel) ok_yX0_carriedOfMillion mk_RX4_282 (cfX0_carriedOfMillion (l := E.l) (G := E.G) (fun j => a0 (18 + j)) h6) [18, 19, 20, 21, 22, 23, 24, 25, 26, 27, 28, 29, 30, 31, 32, 33, 34, 35] (q0 := 0) rfl rfl rfl rfl rfl rfl rfl (Nat.le_of_ble_eq_true rfl) (Nat.le_of_ble_eq_true rfl) (Nat.le_of_ble_eq_true rfl) ?_
            show V E _ (wdXa E.G a0 (xs_dr S0 q3)) 48 [(0, .ref (a0 0)), (1, .int p1), (2, .int p2)] [.int q5]
            rw [wdXa_eq]
            refine V_goto C (off := 10) (tgt := 58) (by decide +kernel) (by decide) ?_
            have h := Option.some.inj h
            subst h
            exact V_iret C (by decide +kernel) rfl
          · refine V_pb C hn [(.aload_n 0, 1)] (pc' := 52) (ls' := [(0, .ref (a0 0)), (1, .int p1), (2, .int p2)]) (st' := [.ref (a0 0)]) (decB_ok (by decide +kernel)) rfl rfl ?_
            refine V_get C (v := .ref (a0 18)) (by decide +kernel) 0 6 fk_RX4_38 rfl rfl ?_
            obtain ⟨q7, h8, h⟩ := bnd h
            rw [← wdXa_eq (S := xs_dr S0 q3)]
            refine V_callVp C (As := []) (rest := []) (by decide +kernel) ok_yX0_thousandfoldMean mk_RX4_285 (cfX0_thousandfoldMean (l := E.l) (G := E.G) (fun j => a0 (18 + j)) h8) [18, 19, 20, 21, 22, 23, 24, 25, 26, 27, 28, 29, 30, 31, 32, 33, 34, 35] (q0 := 0) rfl rfl rfl rfl rfl rfl rfl (Nat.le_of_ble_eq_true rfl) (Nat.le_of_ble_eq_true rfl) (Nat.le_of_ble_eq_true rfl) ?_
            show V E _ (wdXa E.G a0 (xs_dr S0 q3)) 58 [(0, .ref (a0 0)), (1, .int p1), (2, .int p2)] [.int q7]
            rw [wdXa_eq]
            have h := Option.some.inj h
            subst h
            exact V_iret C (by decide +kernel) rfl
        · refine V_sub (ls' := [(0, .ref (a0 0))]) rfl ?_
          exact cfX4_odds_j18 C hn h
set_option maxRecDepth 100000 in
set_option maxHeartbeats 400000 in
theorem cfX4_isSetting {l : Launch} {G : GG} {p0 : Int64} {out : Int32} (h : fX4_isSetting p0 = some out) : Con l G 0 yX4_isSetting cX4_isSetting 2 (some .boolean) [.long p0] (([] : va_W)) (some (.int out)) (([] : va_W)) := by
  refine Con_of (by decide +kernel) (Nat.le_of_ble_eq_true rfl) (fun E hl hG hn C => ?_)
  subst hl
  subst hG
  have C : Ctx E cX4_isSetting RX4 0 (some .boolean) := C
  show V E _ _ 0 [(0, .long p0)] []
  unfold fX4_isSetting at h
  refine V_pb C hn [(.lload_n 0, 1), (.lconst 0, 1), (.lcmp, 1)] (pc' := 3) (ls' := [(0, .long p0)]) (st' := [.int (lg_cmp p0 (0 : Int64))]) (decB_ok (by decide +kernel)) rfl rfl ?_
  refine V_if_lt C (off := 31) (tgt := 34) (by decide +kernel) (by decide) h (fun _ h => ?_) (fun _ h => ?_)
  · refine V_pb C hn [(.iconst 0, 1)] (pc' := 35) (ls' := [(0, .long p0)]) (st' := [.int (0 : Int32)]) (decB_ok (by decide +kernel)) rfl rfl ?_
    have h := Option.some.inj h
    subst h
    exact V_iret C (v := (0 : Int32)) (by decide +kernel) nb0
  · refine V_pb C hn [(.lload_n 0, 1)] (pc' := 7) (ls' := [(0, .long p0)]) (st' := [.long p0]) (decB_ok (by decide +kernel)) rfl rfl ?_
    refine V_ldc2 C (by decide +kernel) kk_RX4_318 ?_
    refine V_ldiv C (by decide +kernel) (by decide) ?_
    refine V_ldc2 C (by decide +kernel) kk_RX4_320 ?_
    refine V_pb C hn [(.lcmp, 1)] (pc' := 15) (ls' := [(0, .long p0)]) (st' := [.int (lg_cmp (p0 / (10 : Int64)) (16 : Int64))]) (decB_ok (by decide +kernel)) rfl rfl ?_
    refine V_if_ge C (off := 19) (tgt := 34) (by decide +kernel) (by decide) h (fun _ h => ?_) (fun _ h => ?_)
    · refine V_pb C hn [(.iconst 0, 1)] (pc' := 35) (ls' := [(0, .long p0)]) (st' := [.int (0 : Int32)]) (decB_ok (by decide +kernel)) rfl rfl ?_
      have h := Option.some.inj h
      subst h
      exact V_iret C (v := (0 : Int32)) (by decide +kernel) nb0
    · refine V_pb C hn [(.lload_n 0, 1)] (pc' := 19) (ls' := [(0, .long p0)]) (st' := [.long p0]) (decB_ok (by decide +kernel)) rfl rfl ?_
      refine V_ldc2 C (by decide +kernel) kk_RX4_318 ?_
      refine V_lrem C (by decide +kernel) (by decide) ?_
      refine V_ldc2 C (by decide +kernel) kk_RX4_322 ?_
      refine V_pb C hn [(.lcmp, 1)] (pc' := 27) (ls' := [(0, .long p0)]) (st' := [.int (lg_cmp (lrm p0 (10 : Int64)) (4 : Int64))]) (decB_ok (by decide +kernel)) rfl rfl ?_
      refine V_if_gt C (off := 7) (tgt := 34) (by decide +kernel) (by decide) h (fun _ h => ?_) (fun _ h => ?_)
      · refine V_pb C hn [(.iconst 0, 1)] (pc' := 35) (ls' := [(0, .long p0)]) (st' := [.int (0 : Int32)]) (decB_ok (by decide +kernel)) rfl rfl ?_
        have h := Option.some.inj h
        subst h
        exact V_iret C (v := (0 : Int32)) (by decide +kernel) nb0
      · refine V_pb C hn [(.iconst 1, 1)] (pc' := 31) (ls' := [(0, .long p0)]) (st' := [.int (1 : Int32)]) (decB_ok (by decide +kernel)) rfl rfl ?_
        refine V_goto C (off := 4) (tgt := 35) (by decide +kernel) (by decide) ?_
        have h := Option.some.inj h
        subst h
        exact V_iret C (v := (1 : Int32)) (by decide +kernel) nb1
set_option maxRecDepth 100000 in
set_option maxHeartbeats 400000 in
theorem cfX4_wrongAt_L13 {E : VE} (C : Ctx E cX4_wrongAt RX4 1 (some .int)) (hn : E.nL = 5) {a0 : Nat → Nat} {p1 : Int32} {p2 : Int32} {S0 : XT} {out : Int32} (hf0 : inb p1 8 = true) : ∀ (n : Nat) (v4 : Int32), fX4_wrongAt_L13 p1 p2 S0 n v4 = some out → V E (QR E (some (.int out)) (wdX E.G a0 S0)) (wdX E.G a0 S0) 13 [(2, .int p2), (3, .ref (a0 (36 + 2 * ix p1 + 1))), (4, .int v4)] [] := by
  intro n
  induction n with
  | zero =>
    intro v4 h
    cases h
  | succ n ih =>
    intro v4 h
    unfold fX4_wrongAt_L13 at h
    refine V_pb C hn [(.iload 4, 2), (.iload_n 2, 1)] (pc' := 16) (ls' := [(2, .int p2), (3, .ref (a0 (36 + 2 * ix p1 + 1))), (4, .int v4)]) (st' := [.int p2, .int v4]) (decB_ok (by decide +kernel)) rfl rfl ?_
    refine V_ic_ge C (off := 29) (tgt := 45) (by decide +kernel) (by decide) h (fun _ h => ?_) (fun _ h => ?_)
    · refine V_pb C hn [(.iconst (-1), 1)] (pc' := 46) (ls' := [(2, .int p2), (3, .ref (a0 (36 + 2 * ix p1 + 1))), (4, .int v4)]) (st' := [.int (cI (-1))]) (decB_ok (by decide +kernel)) rfl rfl ?_
      have h := Option.some.inj h
      subst h
      exact V_iret C (by decide +kernel) rfl
    · refine V_pb C hn [(.iload 4, 2), (.aload_n 3, 1)] (pc' := 22) (ls' := [(2, .int p2), (3, .ref (a0 (36 + 2 * ix p1 + 1))), (4, .int v4)]) (st' := [.ref (a0 (36 + 2 * ix p1 + 1)), .int v4]) (decB_ok (by decide +kernel)) rfl rfl ?_
      refine V_alen C (v := (40 : Int32)) (by decide +kernel) (36 + 2 * ix p1 + 1) 1 (fg_X_sh_1 (inb_lt hf0)) rfl rfl ?_
      refine V_ic_ge C (off := 22) (tgt := 45) (by decide +kernel) (by decide) h (fun _ h => ?_) (fun _ h => ?_)
      · refine V_pb C hn [(.iconst (-1), 1)] (pc' := 46) (ls' := [(2, .int p2), (3, .ref (a0 (36 + 2 * ix p1 + 1))), (4, .int v4)]) (st' := [.int (cI (-1))]) (decB_ok (by decide +kernel)) rfl rfl ?_
        have h := Option.some.inj h
        subst h
        exact V_iret C (by decide +kernel) rfl
      · refine V_pb C hn [(.aload_n 3, 1), (.iload 4, 2)] (pc' := 29) (ls' := [(2, .int p2), (3, .ref (a0 (36 + 2 * ix p1 + 1))), (4, .int v4)]) (st' := [.int v4, .ref (a0 (36 + 2 * ix p1 + 1))]) (decB_ok (by decide +kernel)) rfl rfl ?_
        refine V_lald C (f := (sh_elements ((x_sh S0) (ix p1)))) (by decide +kernel) (36 + 2 * ix p1 + 1) (fg_X_sh_1 (inb_lt hf0)) h (fun h => ?_)
        obtain ⟨q2, h3, h⟩ := bnd h
        refine V_callSp C (As := [.long ((sh_elements ((x_sh S0) (ix p1))) (ix v4))]) (rest := []) (by decide +kernel) ok_yX4_isSetting mk_RX4_337 (cfX4_isSetting (l := E.l) (G := E.G) h3) [] rfl rfl rfl rfl (Nat.le_of_ble_eq_true rfl) (Nat.le_of_ble_eq_true rfl) (Nat.le_of_ble_eq_true rfl) ?_
        show V E _ (wdX E.G a0 S0) 33 [(2, .int p2), (3, .ref (a0 (36 + 2 * ix p1 + 1))), (4, .int v4)] [.int q2]
        refine V_if_ne C (off := 6) (tgt := 39) (by decide +kernel) (by decide) h (fun _ h => ?_) (fun _ h => ?_)
        · refine V_pb C hn [(.iload 4, 2)] (pc' := 38) (ls' := [(2, .int p2), (3, .ref (a0 (36 + 2 * ix p1 + 1))), (4, .int v4)]) (st' := [.int v4]) (decB_ok (by decide +kernel)) rfl rfl ?_
          have h := Option.some.inj h
          subst h
          exact V_iret C (by decide +kernel) rfl
        · refine V_pb C hn [(.iinc 4 1, 3)] (pc' := 42) (ls' := [(2, .int p2), (3, .ref (a0 (36 + 2 * ix p1 + 1))), (4, .int (v4 + (1 : Int32)))]) (st' := []) (decB_ok (by decide +kernel)) rfl rfl ?_
          refine V_goto C (off := -29) (tgt := 13) (by decide +kernel) (by decide) ?_
          refine V_sub (ls' := [(2, .int p2), (3, .ref (a0 (36 + 2 * ix p1 + 1))), (4, .int (v4 + (1 : Int32)))]) rfl ?_
          exact ih _ h
set_option maxRecDepth 100000 in
set_option maxHeartbeats 400000 in
theorem cfX4_wrongAt {l : Launch} {G : GG} (a0 : Nat → Nat) {p1 : Int32} {p2 : Int32} {S0 : XT} {out : Int32} (h : fX4_wrongAt p1 p2 S0 = some out) : Con l G 1 yX4_wrongAt cX4_wrongAt 5 (some .int) [.ref (a0 0), .int p1, .int p2] (wdX G a0 S0) (some (.int out)) (wdX G a0 S0) := by
  refine Con_of (by decide +kernel) (Nat.le_of_ble_eq_true rfl) (fun E hl hG hn C => ?_)
  subst hl
  subst hG
  have C : Ctx E cX4_wrongAt RX4 1 (some .int) := C
  show V E _ _ 0 [(0, .ref (a0 0)), (1, .int p1), (2, .int p2)] []
  unfold fX4_wrongAt at h
  refine V_pb C hn [(.aload_n 0, 1)] (pc' := 1) (ls' := [(0, .ref (a0 0)), (1, .int p1), (2, .int p2)]) (st' := [.ref (a0 0)]) (decB_ok (by decide +kernel)) rfl rfl ?_
  refine V_get C (v := .ref (a0 3)) (by decide +kernel) 0 4 fk_RX4_24 rfl rfl ?_
  refine V_pb C hn [(.iload_n 1, 1)] (pc' := 5) (ls' := [(0, .ref (a0 0)), (1, .int p1), (2, .int p2)]) (st' := [.int p1, .ref (a0 3)]) (decB_ok (by decide +kernel)) rfl rfl ?_
  refine V_aald3 C (b := a0 (36 + 2 * ix p1)) (by decide +kernel) 3 3 rfl rfl h rfl (fun hf1 h => ?_)
  refine V_get C (v := .ref (a0 (36 + 2 * ix p1 + 1))) (by decide +kernel) (36 + 2 * ix p1) 4 fk_RX4_72 (fg_X_sh_0 (inb_lt hf1)) rfl ?_
  refine V_pb C hn [(.astore_n 3, 1), (.iconst 0, 1), (.istore 4, 2)] (pc' := 13) (ls' := [(0, .ref (a0 0)), (1, .int p1), (2, .int p2), (3, .ref (a0 (36 + 2 * ix p1 + 1))), (4, .int (0 : Int32))]) (st' := []) (decB_ok (by decide +kernel)) rfl rfl ?_
  refine V_sub (ls' := [(2, .int p2), (3, .ref (a0 (36 + 2 * ix p1 + 1))), (4, .int (0 : Int32))]) rfl ?_
  exact cfX4_wrongAt_L13 C hn hf1 FU _ h
set_option maxRecDepth 100000 in
set_option maxHeartbeats 400000 in
theorem cfX4_judge {l : Launch} {G : GG} (a0 : Nat → Nat) {p1 : Int32} {p2 : Int32} {S0 : XT} {out : Int32 × XT} (h : fX4_judge p1 p2 S0 = some out) : Con l G 2 yX4_judge cX4_judge 4 (some .int) [.ref (a0 0), .int p1, .int p2] (wdX G a0 S0) (some (.int out.1)) (wdX G a0 out.2) := by
  refine Con_of (by decide +kernel) (Nat.le_of_ble_eq_true rfl) (fun E hl hG hn C => ?_)
  subst hl
  subst hG
  have C : Ctx E cX4_judge RX4 2 (some .int) := C
  show V E _ _ 0 [(0, .ref (a0 0)), (1, .int p1), (2, .int p2)] []
  unfold fX4_judge at h
  refine V_pb C hn [(.aload_n 0, 1), (.iload_n 1, 1), (.iload_n 2, 1)] (pc' := 3) (ls' := [(0, .ref (a0 0)), (1, .int p1), (2, .int p2)]) (st' := [.int p2, .int p1, .ref (a0 0)]) (decB_ok (by decide +kernel)) rfl rfl ?_
  obtain ⟨q1, h2, h⟩ := bnd h
  refine V_callSp C (As := [.int p2]) (rest := [.int p1, .ref (a0 0)]) (by decide +kernel) ok_yX4_isElementCount mk_RX4_54 (cfX4_isElementCount (l := E.l) (G := E.G) h2) [] rfl rfl rfl rfl (Nat.le_of_ble_eq_true rfl) (Nat.le_of_ble_eq_true rfl) (Nat.le_of_ble_eq_true rfl) ?_
  show V E _ (wdX E.G a0 S0) 6 [(0, .ref (a0 0)), (1, .int p1), (2, .int p2)] [.int q1, .int p1, .ref (a0 0)]
  refine V_pb C hn [(.iload_n 2, 1)] (pc' := 7) (ls' := [(0, .ref (a0 0)), (1, .int p1), (2, .int p2)]) (st' := [.int p2, .int q1, .int p1, .ref (a0 0)]) (decB_ok (by decide +kernel)) rfl rfl ?_
  obtain ⟨q3, h4, h⟩ := bnd h
  refine V_callV0 C (As := [.int p1, .int q1, .int p2]) (rest := []) (by decide +kernel) ok_yX4_rowRefusal mk_RX4_65 (cfX4_rowRefusal (l := E.l) (G := E.G) a0 h4) (q0 := 0) rfl rfl rfl rfl rfl rfl (Nat.le_of_ble_eq_true rfl) (Nat.le_of_ble_eq_true rfl) (Nat.le_of_ble_eq_true rfl) ?_
  show V E _ (wdX E.G a0 S0) 10 [(0, .ref (a0 0)), (1, .int p1), (2, .int p2)] [.int q3]
  refine V_pb C hn [(.istore_n 3, 1), (.iload_n 3, 1)] (pc' := 12) (ls' := [(0, .ref (a0 0)), (1, .int p1), (2, .int p2), (3, .int q3)]) (st' := [.int q3]) (decB_ok (by decide +kernel)) rfl rfl ?_
  refine V_if_eq C (off := 11) (tgt := 23) (by decide +kernel) (by decide) h (fun _ h => ?_) (fun _ h => ?_)
  · refine V_pb C hn [(.aload_n 0, 1), (.iload_n 1, 1), (.iload_n 2, 1)] (pc' := 26) (ls' := [(0, .ref (a0 0)), (1, .int p1), (2, .int p2), (3, .int q3)]) (st' := [.int p2, .int p1, .ref (a0 0)]) (decB_ok (by decide +kernel)) rfl rfl ?_
    obtain ⟨q5, h6, h⟩ := bnd h
    refine V_callV0 C (As := [.int p1, .int p2]) (rest := []) (by decide +kernel) ok_yX4_wrongAt mk_RX4_288 (cfX4_wrongAt (l := E.l) (G := E.G) a0 h6) (q0 := 0) rfl rfl rfl rfl rfl rfl (Nat.le_of_ble_eq_true rfl) (Nat.le_of_ble_eq_true rfl) (Nat.le_of_ble_eq_true rfl) ?_
    show V E _ (wdX E.G a0 S0) 29 [(0, .ref (a0 0)), (1, .int p1), (2, .int p2), (3, .int q3)] [.int q5]
    have h := Option.some.inj h
    subst h
    exact V_iret C (by decide +kernel) rfl
  · refine V_pb C hn [(.aload_n 0, 1), (.iload_n 3, 1)] (pc' := 17) (ls' := [(0, .ref (a0 0)), (1, .int p1), (2, .int p2), (3, .int q3)]) (st' := [.int q3, .ref (a0 0)]) (decB_ok (by decide +kernel)) rfl rfl ?_
    obtain ⟨q7, h8, h⟩ := bnd h
    refine V_callV0 C (As := [.int q3]) (rest := []) (by decide +kernel) ok_yX4_refuse mk_RX4_57 (cfX4_refuse (l := E.l) (G := E.G) a0 h8) (q0 := 0) rfl rfl rfl rfl rfl rfl (Nat.le_of_ble_eq_true rfl) (Nat.le_of_ble_eq_true rfl) (Nat.le_of_ble_eq_true rfl) ?_
    show V E _ (wdX E.G a0 q7.2) 20 [(0, .ref (a0 0)), (1, .int p1), (2, .int p2), (3, .int q3)] [.int q7.1]
    refine V_goto C (off := 9) (tgt := 29) (by decide +kernel) (by decide) ?_
    have h := Option.some.inj h
    subst h
    exact V_iret C (by decide +kernel) rfl
set_option maxRecDepth 100000 in
set_option maxHeartbeats 400000 in
theorem cfX4_sessionRefusal_j18 {E : VE} (C : Ctx E cX4_sessionRefusal RX4 2 (some .int)) (hn : E.nL = 5) {a0 : Nat → Nat} {p1 : Int32} {p2 : Int32} {p3 : Int32} {S0 : XT} {s0 : Int32} {s1 : Int32} {out : Int32} (h : fX4_sessionRefusal_j18 p1 p2 p3 S0 s0 s1 = some out) : V E (QR E (some (.int out)) (wdX E.G a0 S0)) (wdX E.G a0 S0) 18 [(0, .ref (a0 0)), (1, .int p1), (2, .int p2)] [.int s0, .int s1, .ref (a0 0)] := by
  unfold fX4_sessionRefusal_j18 at h
  refine V_pb C hn [(.iload_n 2, 1)] (pc' := 19) (ls' := [(0, .ref (a0 0)), (1, .int p1), (2, .int p2)]) (st' := [.int p2, .int s0, .int s1, .ref (a0 0)]) (decB_ok (by decide +kernel)) rfl rfl ?_
  obtain ⟨q3, h4, h⟩ := bnd h
  refine V_callV0 C (As := [.int s1, .int s0, .int p2]) (rest := []) (by decide +kernel) ok_yX4_rowRefusal mk_RX4_65 (cfX4_rowRefusal (l := E.l) (G := E.G) a0 h4) (q0 := 0) rfl rfl rfl rfl rfl rfl (Nat.le_of_ble_eq_true rfl) (Nat.le_of_ble_eq_true rfl) (Nat.le_of_ble_eq_true rfl) ?_
  show V E _ (wdX E.G a0 S0) 22 [(0, .ref (a0 0)), (1, .int p1), (2, .int p2)] [.int q3]
  refine V_pb C hn [(.istore 4, 2), (.iload 4, 2)] (pc' := 26) (ls' := [(0, .ref (a0 0)), (1, .int p1), (2, .int p2), (4, .int q3)]) (st' := [.int q3]) (decB_ok (by decide +kernel)) rfl rfl ?_
  refine V_if_eq C (off := 6) (tgt := 32) (by decide +kernel) (by decide) h (fun _ h => ?_) (fun _ h => ?_)
  · refine V_pb C hn [(.aload_n 0, 1), (.iload_n 1, 1), (.iload_n 2, 1)] (pc' := 35) (ls' := [(0, .ref (a0 0)), (1, .int p1), (2, .int p2), (4, .int q3)]) (st' := [.int p2, .int p1, .ref (a0 0)]) (decB_ok (by decide +kernel)) rfl rfl ?_
    obtain ⟨q5, h6, h⟩ := bnd h
    refine V_callV0 C (As := [.int p1, .int p2]) (rest := []) (by decide +kernel) ok_yX4_wrongAt mk_RX4_288 (cfX4_wrongAt (l := E.l) (G := E.G) a0 h6) (q0 := 0) rfl rfl rfl rfl rfl rfl (Nat.le_of_ble_eq_true rfl) (Nat.le_of_ble_eq_true rfl) (Nat.le_of_ble_eq_true rfl) ?_
    show V E _ (wdX E.G a0 S0) 38 [(0, .ref (a0 0)), (1, .int p1), (2, .int p2), (4, .int q3)] [.int q5]
    refine V_pb C hn [(.iconst (-1), 1)] (pc' := 39) (ls' := [(0, .ref (a0 0)), (1, .int p1), (2, .int p2), (4, .int q3)]) (st' := [.int (cI (-1)), .int q5]) (decB_ok (by decide +kernel)) rfl rfl ?_
    refine V_ic_eq C (off := 8) (tgt := 47) (by decide +kernel) (by decide) h (fun _ h => ?_) (fun _ h => ?_)
    · refine V_pb C hn [(.iconst 0, 1)] (pc' := 48) (ls' := [(0, .ref (a0 0)), (1, .int p1), (2, .int p2), (4, .int q3)]) (st' := [.int (0 : Int32)]) (decB_ok (by decide +kernel)) rfl rfl ?_
      have h := Option.some.inj h
      subst h
      exact V_iret C (by decide +kernel) rfl
    · refine V_pb C hn [(.bipush (-5), 2)] (pc' := 44) (ls' := [(0, .ref (a0 0)), (1, .int p1), (2, .int p2), (4, .int q3)]) (st' := [.int (cI (-5))]) (decB_ok (by decide +kernel)) rfl rfl ?_
      refine V_goto C (off := 4) (tgt := 48) (by decide +kernel) (by decide) ?_
      have h := Option.some.inj h
      subst h
      exact V_iret C (by decide +kernel) rfl
  · refine V_pb C hn [(.iload 4, 2)] (pc' := 31) (ls' := [(0, .ref (a0 0)), (1, .int p1), (2, .int p2), (4, .int q3)]) (st' := [.int q3]) (decB_ok (by decide +kernel)) rfl rfl ?_
    have h := Option.some.inj h
    subst h
    exact V_iret C (by decide +kernel) rfl
set_option maxRecDepth 100000 in
set_option maxHeartbeats 400000 in
theorem cfX4_sessionRefusal_j17 {E : VE} (C : Ctx E cX4_sessionRefusal RX4 2 (some .int)) (hn : E.nL = 5) {a0 : Nat → Nat} {p1 : Int32} {p2 : Int32} {p3 : Int32} {S0 : XT} {s0 : Int32} {out : Int32} (h : fX4_sessionRefusal_j17 p1 p2 p3 S0 s0 = some out) : V E (QR E (some (.int out)) (wdX E.G a0 S0)) (wdX E.G a0 S0) 17 [(0, .ref (a0 0)), (1, .int p1), (2, .int p2)] [.int s0, .ref (a0 0)] := by
  unfold fX4_sessionRefusal_j17 at h
  refine V_pb C hn [(.iconst 0, 1)] (pc' := 18) (ls' := [(0, .ref (a0 0)), (1, .int p1), (2, .int p2)]) (st' := [.int (0 : Int32), .int s0, .ref (a0 0)]) (decB_ok (by decide +kernel)) rfl rfl ?_
  refine V_sub (ls' := [(0, .ref (a0 0)), (1, .int p1), (2, .int p2)]) rfl ?_
  exact cfX4_sessionRefusal_j18 C hn h
set_option maxRecDepth 100000 in
set_option maxHeartbeats 400000 in
theorem cfX4_sessionRefusal {l : Launch} {G : GG} (a0 : Nat → Nat) {p1 : Int32} {p2 : Int32} {p3 : Int32} {S0 : XT} {out : Int32} (h : fX4_sessionRefusal p1 p2 p3 S0 = some out) : Con l G 2 yX4_sessionRefusal cX4_sessionRefusal 5 (some .int) [.ref (a0 0), .int p1, .int p2, .int p3] (wdX G a0 S0) (some (.int out)) (wdX G a0 S0) := by
  refine Con_of (by decide +kernel) (Nat.le_of_ble_eq_true rfl) (fun E hl hG hn C => ?_)
  subst hl
  subst hG
  have C : Ctx E cX4_sessionRefusal RX4 2 (some .int) := C
  show V E _ _ 0 [(0, .ref (a0 0)), (1, .int p1), (2, .int p2), (3, .int p3)] []
  unfold fX4_sessionRefusal at h
  refine V_pb C hn [(.aload_n 0, 1), (.iload_n 1, 1), (.iload_n 2, 1)] (pc' := 3) (ls' := [(0, .ref (a0 0)), (1, .int p1), (2, .int p2), (3, .int p3)]) (st' := [.int p2, .int p1, .ref (a0 0)]) (decB_ok (by decide +kernel)) rfl rfl ?_
  obtain ⟨q1, h2, h⟩ := bnd h
  refine V_callSp C (As := [.int p2]) (rest := [.int p1, .ref (a0 0)]) (by decide +kernel) ok_yX4_isElementCount mk_RX4_54 (cfX4_isElementCount (l := E.l) (G := E.G) h2) [] rfl rfl rfl rfl (Nat.le_of_ble_eq_true rfl) (Nat.le_of_ble_eq_true rfl) (Nat.le_of_ble_eq_true rfl) ?_
  show V E _ (wdX E.G a0 S0) 6 [(0, .ref (a0 0)), (1, .int p1), (2, .int p2), (3, .int p3)] [.int q1, .int p1, .ref (a0 0)]
  refine V_if_eq C (off := 11) (tgt := 17) (by decide +kernel) (by decide) h (fun _ h => ?_) (fun _ h => ?_)
  · refine V_sub (ls' := [(0, .ref (a0 0)), (1, .int p1), (2, .int p2)]) rfl ?_
    exact cfX4_sessionRefusal_j17 C hn h
  · refine V_pb C hn [(.iload_n 3, 1)] (pc' := 10) (ls' := [(0, .ref (a0 0)), (1, .int p1), (2, .int p2), (3, .int p3)]) (st' := [.int p3, .int p1, .ref (a0 0)]) (decB_ok (by decide +kernel)) rfl rfl ?_
    refine V_if_eq C (off := 7) (tgt := 17) (by decide +kernel) (by decide) h (fun _ h => ?_) (fun _ h => ?_)
    · refine V_sub (ls' := [(0, .ref (a0 0)), (1, .int p1), (2, .int p2)]) rfl ?_
      exact cfX4_sessionRefusal_j17 C hn h
    · refine V_pb C hn [(.iconst 1, 1)] (pc' := 14) (ls' := [(0, .ref (a0 0)), (1, .int p1), (2, .int p2), (3, .int p3)]) (st' := [.int (1 : Int32), .int p1, .ref (a0 0)]) (decB_ok (by decide +kernel)) rfl rfl ?_
      refine V_goto C (off := 4) (tgt := 18) (by decide +kernel) (by decide) ?_
      refine V_sub (ls' := [(0, .ref (a0 0)), (1, .int p1), (2, .int p2)]) rfl ?_
      exact cfX4_sessionRefusal_j18 C hn h
set_option maxRecDepth 100000 in
set_option maxHeartbeats 400000 in
theorem cfX4_behind_j43 {E : VE} (C : Ctx E cX4_behind RX4 5 (some .int)) (hn : E.nL = 7) {a0 : Nat → Nat} {p1 : Int32} {p2 : Int32} {p3 : Int32} {v4 : Int32} {s0 : Int32} {S0 : XT} {out : Int32 × XT} (h : fX4_behind_j43 p1 p2 p3 v4 s0 S0 = some out) : V E (QR E (some (.int out.1)) (wdX E.G a0 out.2)) (wdX E.G a0 S0) 43 [(0, .ref (a0 0)), (1, .int p1), (2, .int p2), (3, .int p3), (4, .int v4)] [.int s0] := by
  unfold fX4_behind_j43 at h
  refine V_pb C hn [(.istore 5, 2), (.aload_n 0, 1), (.iload_n 1, 1), (.iload_n 2, 1), (.iload 5, 2)] (pc' := 50) (ls' := [(0, .ref (a0 0)), (1, .int p1), (2, .int p2), (3, .int p3), (4, .int v4), (5, .int s0)]) (st' := [.int s0, .int p2, .int p1, .ref (a0 0)]) (decB_ok (by decide +kernel)) rfl rfl ?_
  obtain ⟨q1, h2, h⟩ := bnd h
  refine V_callV0 C (As := [.int p1, .int p2, .int s0]) (rest := []) (by decide +kernel) ok_yX4_sessionRefusal mk_RX4_291 (cfX4_sessionRefusal (l := E.l) (G := E.G) a0 h2) (q0 := 0) rfl rfl rfl rfl rfl rfl (Nat.le_of_ble_eq_true rfl) (Nat.le_of_ble_eq_true rfl) (Nat.le_of_ble_eq_true rfl) ?_
  show V E _ (wdX E.G a0 S0) 53 [(0, .ref (a0 0)), (1, .int p1), (2, .int p2), (3, .int p3), (4, .int v4), (5, .int s0)] [.int q1]
  refine V_pb C hn [(.istore 6, 2), (.iload 6, 2)] (pc' := 57) (ls' := [(0, .ref (a0 0)), (1, .int p1), (2, .int p2), (3, .int p3), (4, .int v4), (5, .int s0), (6, .int q1)]) (st' := [.int q1]) (decB_ok (by decide +kernel)) rfl rfl ?_
  refine V_if_eq C (off := 10) (tgt := 67) (by decide +kernel) (by decide) h (fun _ h => ?_) (fun _ h => ?_)
  · refine V_pb C hn [(.aload_n 0, 1)] (pc' := 68) (ls' := [(0, .ref (a0 0)), (1, .int p1), (2, .int p2), (3, .int p3), (4, .int v4), (5, .int s0), (6, .int q1)]) (st' := [.ref (a0 0)]) (decB_ok (by decide +kernel)) rfl rfl ?_
    refine V_get C (v := .ref (a0 12)) (by decide +kernel) 0 2 fk_RX4_19 rfl rfl ?_
    refine V_pb C hn [(.aload_n 0, 1)] (pc' := 72) (ls' := [(0, .ref (a0 0)), (1, .int p1), (2, .int p2), (3, .int p3), (4, .int v4), (5, .int s0), (6, .int q1)]) (st' := [.ref (a0 0), .ref (a0 12)]) (decB_ok (by decide +kernel)) rfl rfl ?_
    refine V_get C (v := .ref (a0 4)) (by decide +kernel) 0 0 fk_RX4_12 rfl rfl ?_
    obtain ⟨q3, h4, h⟩ := bnd h
    refine V_callV (ws' := wdX E.G a0 (xs_trial S0 q3)) C (As := [.ref (a0 4)]) (rest := []) (by decide +kernel) ok_yX1_takeOver mk_RX4_170 (cfX1_takeOver (l := E.l) (G := E.G) (fun j => a0 (12 + j)) (fun j => a0 (4 + j)) h4) [12, 13, 14, 15, 4, 5, 6, 7] (q0 := 0) rfl rfl rfl rfl rfl rfl rfl rfl rfl (Nat.le_of_ble_eq_true rfl) (Nat.le_of_ble_eq_true rfl) (Nat.le_of_ble_eq_true rfl) ?_
    show V E _ (wdX E.G a0 (xs_trial S0 q3)) 78 [(0, .ref (a0 0)), (1, .int p1), (2, .int p2), (3, .int p3), (4, .int v4), (5, .int s0), (6, .int q1)] []
    refine V_pb C hn [(.aload_n 0, 1)] (pc' := 79) (ls' := [(0, .ref (a0 0)), (1, .int p1), (2, .int p2), (3, .int p3), (4, .int v4), (5, .int s0), (6, .int q1)]) (st' := [.ref (a0 0)]) (decB_ok (by decide +kernel)) rfl rfl ?_
    refine V_get C (v := .ref (a0 12)) (by decide +kernel) 0 2 fk_RX4_19 rfl rfl ?_
    refine V_pb C hn [(.aload_n 0, 1)] (pc' := 83) (ls' := [(0, .ref (a0 0)), (1, .int p1), (2, .int p2), (3, .int p3), (4, .int v4), (5, .int s0), (6, .int q1)]) (st' := [.ref (a0 0), .ref (a0 12)]) (decB_ok (by decide +kernel)) rfl rfl ?_
    refine V_get C (v := .ref (a0 3)) (by decide +kernel) 0 4 fk_RX4_24 rfl rfl ?_
    refine V_pb C hn [(.iload_n 1, 1)] (pc' := 87) (ls' := [(0, .ref (a0 0)), (1, .int p1), (2, .int p2), (3, .int p3), (4, .int v4), (5, .int s0), (6, .int q1)]) (st' := [.int p1, .ref (a0 3), .ref (a0 12)]) (decB_ok (by decide +kernel)) rfl rfl ?_
    refine V_aald3 C (b := a0 (36 + 2 * ix p1)) (by decide +kernel) 3 3 rfl rfl h rfl (fun hf5 h => ?_)
    refine V_get C (v := .ref (a0 (36 + 2 * ix p1 + 1))) (by decide +kernel) (36 + 2 * ix p1) 4 fk_RX4_72 (fg_X_sh_0 (inb_lt hf5)) rfl ?_
    refine V_pb C hn [(.iload_n 2, 1)] (pc' := 92) (ls' := [(0, .ref (a0 0)), (1, .int p1), (2, .int p2), (3, .int p3), (4, .int v4), (5, .int s0), (6, .int q1)]) (st' := [.int p2, .ref (a0 (36 + 2 * ix p1 + 1)), .ref (a0 12)]) (decB_ok (by decide +kernel)) rfl rfl ?_
    obtain ⟨q6, h7, h⟩ := bnd h
    refine V_callV (ws' := wdX E.G a0 (xs_trial S0 q6)) C (As := [.ref (a0 (36 + 2 * ix p1 + 1)), .int p2]) (rest := []) (by decide +kernel) ok_yX1_goThrough mk_RX4_295 (cfX1_goThrough (l := E.l) (G := E.G) (fun j => a0 (12 + j)) (fun j => a0 (36 + 2 * ix p1 + 1 + j)) h7) [12, 13, 14, 15, (36 + 2 * ix p1 + 1)] (q0 := 0) rfl (fcm_Hall_L40__trial_sh__X (inb_lt hf5)) (fnm_Hall_L40__trial_sh__X hf5) rfl (fsm_Hall_L40__trial_sh__X hf5 _) rfl rfl rfl rfl (Nat.le_of_ble_eq_true rfl) (Nat.le_of_ble_eq_true rfl) (Nat.le_of_ble_eq_true rfl) ?_
    show V E _ (wdX E.G a0 (xs_trial S0 q6)) 95 [(0, .ref (a0 0)), (1, .int p1), (2, .int p2), (3, .int p3), (4, .int v4), (5, .int s0), (6, .int q1)] []
    refine V_pb C hn [(.iload 4, 2)] (pc' := 97) (ls' := [(0, .ref (a0 0)), (1, .int p1), (2, .int p2), (3, .int p3), (4, .int v4), (5, .int s0), (6, .int q1)]) (st' := [.int v4]) (decB_ok (by decide +kernel)) rfl rfl ?_
    refine V_if_eq C (off := 16) (tgt := 113) (by decide +kernel) (by decide) h (fun _ h => ?_) (fun _ h => ?_)
    · refine V_pb C hn [(.iload_n 3, 1)] (pc' := 114) (ls' := [(0, .ref (a0 0)), (1, .int p1), (2, .int p2), (3, .int p3), (4, .int v4), (5, .int s0), (6, .int q1)]) (st' := [.int p3]) (decB_ok (by decide +kernel)) rfl rfl ?_
      refine V_if_ne C (off := 13) (tgt := 127) (by decide +kernel) (by decide) h (fun _ h => ?_) (fun _ h => ?_)
      · refine V_pb C hn [(.aload_n 0, 1)] (pc' := 118) (ls' := [(0, .ref (a0 0)), (1, .int p1), (2, .int p2), (3, .int p3), (4, .int v4), (5, .int s0), (6, .int q1)]) (st' := [.ref (a0 0)]) (decB_ok (by decide +kernel)) rfl rfl ?_
        refine V_get C (v := .ref (a0 12)) (by decide +kernel) 0 2 fk_RX4_19 rfl rfl ?_
        obtain ⟨q8, h9, h⟩ := bnd h
        refine V_callVp C (As := []) (rest := []) (by decide +kernel) ok_yX1_litWeight mk_RX4_204 (cfX1_litWeight (l := E.l) (G := E.G) (fun j => a0 (12 + j)) h9) [12, 13, 14, 15] (q0 := 0) rfl rfl rfl rfl rfl rfl rfl (Nat.le_of_ble_eq_true rfl) (Nat.le_of_ble_eq_true rfl) (Nat.le_of_ble_eq_true rfl) ?_
        show V E _ (wdX E.G a0 (xs_trial S0 q6)) 124 [(0, .ref (a0 0)), (1, .int p1), (2, .int p2), (3, .int p3), (4, .int v4), (5, .int s0), (6, .int q1)] [.int q8]
        refine V_goto C (off := 13) (tgt := 137) (by decide +kernel) (by decide) ?_
        have h := Option.some.inj h
        subst h
        exact V_iret C (by decide +kernel) rfl
      · refine V_pb C hn [(.aload_n 0, 1)] (pc' := 128) (ls' := [(0, .ref (a0 0)), (1, .int p1), (2, .int p2), (3, .int p3), (4, .int v4), (5, .int s0), (6, .int q1)]) (st' := [.ref (a0 0)]) (decB_ok (by decide +kernel)) rfl rfl ?_
        refine V_get C (v := .ref (a0 12)) (by decide +kernel) 0 2 fk_RX4_19 rfl rfl ?_
        obtain ⟨q10, h11, h⟩ := bnd h
        refine V_callVp C (As := []) (rest := []) (by decide +kernel) ok_yX1_carries mk_RX4_208 (cfX1_carries (l := E.l) (G := E.G) (fun j => a0 (12 + j)) h11) [12, 13, 14, 15] (q0 := 0) rfl rfl rfl rfl rfl rfl rfl (Nat.le_of_ble_eq_true rfl) (Nat.le_of_ble_eq_true rfl) (Nat.le_of_ble_eq_true rfl) ?_
        show V E _ (wdX E.G a0 (xs_trial S0 q6)) 134 [(0, .ref (a0 0)), (1, .int p1), (2, .int p2), (3, .int p3), (4, .int v4), (5, .int s0), (6, .int q1)] [.int q10]
        obtain ⟨q12, h13, h⟩ := bnd h
        refine V_callSp C (As := [.int q10]) (rest := []) (by decide +kernel) ok_yX4_bit mk_RX4_184 (cfX4_bit (l := E.l) (G := E.G) h13) [] rfl rfl rfl rfl (Nat.le_of_ble_eq_true rfl) (Nat.le_of_ble_eq_true rfl) (Nat.le_of_ble_eq_true rfl) ?_
        show V E _ (wdX E.G a0 (xs_trial S0 q6)) 137 [(0, .ref (a0 0)), (1, .int p1), (2, .int p2), (3, .int p3), (4, .int v4), (5, .int s0), (6, .int q1)] [.int q12]
        have h := Option.some.inj h
        subst h
        exact V_iret C (by decide +kernel) rfl
    · refine V_pb C hn [(.aload_n 0, 1)] (pc' := 101) (ls' := [(0, .ref (a0 0)), (1, .int p1), (2, .int p2), (3, .int p3), (4, .int v4), (5, .int s0), (6, .int q1)]) (st' := [.ref (a0 0)]) (decB_ok (by decide +kernel)) rfl rfl ?_
      refine V_get C (v := .ref (a0 12)) (by decide +kernel) 0 2 fk_RX4_19 rfl rfl ?_
      refine V_get C (v := .ref (a0 15)) (by decide +kernel) 12 4 fk_RX4_122 rfl rfl ?_
      refine V_pb C hn [(.iload_n 3, 1), (.bipush 10, 2), (.isub, 1)] (pc' := 111) (ls' := [(0, .ref (a0 0)), (1, .int p1), (2, .int p2), (3, .int p3), (4, .int v4), (5, .int s0), (6, .int q1)]) (st' := [.int (p3 - (10 : Int32)), .ref (a0 15)]) (decB_ok (by decide +kernel)) rfl rfl ?_
      refine V_iald C (f := (h_cellOf q6)) (by decide +kernel) 15 rfl h (fun h => ?_)
      have h := Option.some.inj h
      subst h
      exact V_iret C (by decide +kernel) rfl
  · refine V_pb C hn [(.aload_n 0, 1), (.iload 6, 2)] (pc' := 63) (ls' := [(0, .ref (a0 0)), (1, .int p1), (2, .int p2), (3, .int p3), (4, .int v4), (5, .int s0), (6, .int q1)]) (st' := [.int q1, .ref (a0 0)]) (decB_ok (by decide +kernel)) rfl rfl ?_
    obtain ⟨q14, h15, h⟩ := bnd h
    refine V_callV0 C (As := [.int q1]) (rest := []) (by decide +kernel) ok_yX4_refuse mk_RX4_57 (cfX4_refuse (l := E.l) (G := E.G) a0 h15) (q0 := 0) rfl rfl rfl rfl rfl rfl (Nat.le_of_ble_eq_true rfl) (Nat.le_of_ble_eq_true rfl) (Nat.le_of_ble_eq_true rfl) ?_
    show V E _ (wdX E.G a0 q14.2) 66 [(0, .ref (a0 0)), (1, .int p1), (2, .int p2), (3, .int p3), (4, .int v4), (5, .int s0), (6, .int q1)] [.int q14.1]
    have h := Option.some.inj h
    subst h
    exact V_iret C (by decide +kernel) rfl
set_option maxRecDepth 100000 in
set_option maxHeartbeats 400000 in
theorem cfX4_behind_j38 {E : VE} (C : Ctx E cX4_behind RX4 5 (some .int)) (hn : E.nL = 7) {a0 : Nat → Nat} {p1 : Int32} {p2 : Int32} {p3 : Int32} {v4 : Int32} {S0 : XT} {out : Int32 × XT} (h : fX4_behind_j38 p1 p2 p3 v4 S0 = some out) : V E (QR E (some (.int out.1)) (wdX E.G a0 out.2)) (wdX E.G a0 S0) 38 [(0, .ref (a0 0)), (1, .int p1), (2, .int p2), (3, .int p3), (4, .int v4)] [] := by
  unfold fX4_behind_j38 at h
  refine V_pb C hn [(.iconst 1, 1)] (pc' := 39) (ls' := [(0, .ref (a0 0)), (1, .int p1), (2, .int p2), (3, .int p3), (4, .int v4)]) (st' := [.int (1 : Int32)]) (decB_ok (by decide +kernel)) rfl rfl ?_
  refine V_goto C (off := 4) (tgt := 43) (by decide +kernel) (by decide) ?_
  refine V_sub (ls' := [(0, .ref (a0 0)), (1, .int p1), (2, .int p2), (3, .int p3), (4, .int v4)]) rfl ?_
  exact cfX4_behind_j43 C hn h
set_option maxRecDepth 100000 in
set_option maxHeartbeats 400000 in
theorem cfX4_behind_j22 {E : VE} (C : Ctx E cX4_behind RX4 5 (some .int)) (hn : E.nL = 7) {a0 : Nat → Nat} {p1 : Int32} {p2 : Int32} {p3 : Int32} {s0 : Int32} {S0 : XT} {out : Int32 × XT} (h : fX4_behind_j22 p1 p2 p3 s0 S0 = some out) : V E (QR E (some (.int out.1)) (wdX E.G a0 out.2)) (wdX E.G a0 S0) 22 [(0, .ref (a0 0)), (1, .int p1), (2, .int p2), (3, .int p3)] [.int s0] := by
  unfold fX4_behind_j22 at h
  refine V_pb C hn [(.istore 4, 2), (.iload_n 3, 1)] (pc' := 25) (ls' := [(0, .ref (a0 0)), (1, .int p1), (2, .int p2), (3, .int p3), (4, .int s0)]) (st' := [.int p3]) (decB_ok (by decide +kernel)) rfl rfl ?_
  refine V_if_eq C (off := 13) (tgt := 38) (by decide +kernel) (by decide) h (fun _ h => ?_) (fun _ h => ?_)
  · refine V_sub (ls' := [(0, .ref (a0 0)), (1, .int p1), (2, .int p2), (3, .int p3), (4, .int s0)]) rfl ?_
    exact cfX4_behind_j38 C hn h
  · refine V_pb C hn [(.iload_n 3, 1), (.iconst 1, 1)] (pc' := 30) (ls' := [(0, .ref (a0 0)), (1, .int p1), (2, .int p2), (3, .int p3), (4, .int s0)]) (st' := [.int (1 : Int32), .int p3]) (decB_ok (by decide +kernel)) rfl rfl ?_
    refine V_ic_eq C (off := 8) (tgt := 38) (by decide +kernel) (by decide) h (fun _ h => ?_) (fun _ h => ?_)
    · refine V_sub (ls' := [(0, .ref (a0 0)), (1, .int p1), (2, .int p2), (3, .int p3), (4, .int s0)]) rfl ?_
      exact cfX4_behind_j38 C hn h
    · refine V_pb C hn [(.iload 4, 2)] (pc' := 35) (ls' := [(0, .ref (a0 0)), (1, .int p1), (2, .int p2), (3, .int p3), (4, .int s0)]) (st' := [.int s0]) (decB_ok (by decide +kernel)) rfl rfl ?_
      refine V_if_eq C (off := 7) (tgt := 42) (by decide +kernel) (by decide) h (fun _ h => ?_) (fun _ h => ?_)
      · refine V_pb C hn [(.iconst 0, 1)] (pc' := 43) (ls' := [(0, .ref (a0 0)), (1, .int p1), (2, .int p2), (3, .int p3), (4, .int s0)]) (st' := [.int (0 : Int32)]) (decB_ok (by decide +kernel)) rfl rfl ?_
        refine V_sub (ls' := [(0, .ref (a0 0)), (1, .int p1), (2, .int p2), (3, .int p3), (4, .int s0)]) rfl ?_
        exact cfX4_behind_j43 C hn h
      · refine V_sub (ls' := [(0, .ref (a0 0)), (1, .int p1), (2, .int p2), (3, .int p3), (4, .int s0)]) rfl ?_
        exact cfX4_behind_j38 C hn h
set_option maxRecDepth 100000 in
set_option maxHeartbeats 400000 in
theorem cfX4_behind_j21 {E : VE} (C : Ctx E cX4_behind RX4 5 (some .int)) (hn : E.nL = 7) {a0 : Nat → Nat} {p1 : Int32} {p2 : Int32} {p3 : Int32} {S0 : XT} {out : Int32 × XT} (h : fX4_behind_j21 p1 p2 p3 S0 = some out) : V E (QR E (some (.int out.1)) (wdX E.G a0 out.2)) (wdX E.G a0 S0) 21 [(0, .ref (a0 0)), (1, .int p1), (2, .int p2), (3, .int p3)] [] := by
  unfold fX4_behind_j21 at h
  refine V_pb C hn [(.iconst 0, 1)] (pc' := 22) (ls' := [(0, .ref (a0 0)), (1, .int p1), (2, .int p2), (3, .int p3)]) (st' := [.int (0 : Int32)]) (decB_ok (by decide +kernel)) rfl rfl ?_
  refine V_sub (ls' := [(0, .ref (a0 0)), (1, .int p1), (2, .int p2), (3, .int p3)]) rfl ?_
  exact cfX4_behind_j22 C hn h
set_option maxRecDepth 100000 in
set_option maxHeartbeats 400000 in
theorem cfX4_behind {l : Launch} {G : GG} (a0 : Nat → Nat) {p1 : Int32} {p2 : Int32} {p3 : Int32} {S0 : XT} {out : Int32 × XT} (h : fX4_behind p1 p2 p3 S0 = some out) : Con l G 5 yX4_behind cX4_behind 7 (some .int) [.ref (a0 0), .int p1, .int p2, .int p3] (wdX G a0 S0) (some (.int out.1)) (wdX G a0 out.2) := by
  refine Con_of (by decide +kernel) (Nat.le_of_ble_eq_true rfl) (fun E hl hG hn C => ?_)
  subst hl
  subst hG
  have C : Ctx E cX4_behind RX4 5 (some .int) := C
  show V E _ _ 0 [(0, .ref (a0 0)), (1, .int p1), (2, .int p2), (3, .int p3)] []
  unfold fX4_behind at h
  refine V_pb C hn [(.iload_n 3, 1), (.bipush 10, 2)] (pc' := 3) (ls' := [(0, .ref (a0 0)), (1, .int p1), (2, .int p2), (3, .int p3)]) (st' := [.int (10 : Int32), .int p3]) (decB_ok (by decide +kernel)) rfl rfl ?_
  refine V_ic_lt C (off := 18) (tgt := 21) (by decide +kernel) (by decide) h (fun _ h => ?_) (fun _ h => ?_)
  · refine V_sub (ls' := [(0, .ref (a0 0)), (1, .int p1), (2, .int p2), (3, .int p3)]) rfl ?_
    exact cfX4_behind_j21 C hn h
  · refine V_pb C hn [(.aload_n 0, 1), (.iload_n 3, 1), (.bipush 10, 2), (.isub, 1)] (pc' := 11) (ls' := [(0, .ref (a0 0)), (1, .int p1), (2, .int p2), (3, .int p3)]) (st' := [.int (p3 - (10 : Int32)), .ref (a0 0)]) (decB_ok (by decide +kernel)) rfl rfl ?_
    obtain ⟨q16, h17, h⟩ := bnd h
    refine V_callV0 C (As := [.int (p3 - (10 : Int32))]) (rest := []) (by decide +kernel) ok_yX4_isMote mk_RX4_100 (cfX4_isMote (l := E.l) (G := E.G) a0 h17) (q0 := 0) rfl rfl rfl rfl rfl rfl (Nat.le_of_ble_eq_true rfl) (Nat.le_of_ble_eq_true rfl) (Nat.le_of_ble_eq_true rfl) ?_
    show V E _ (wdX E.G a0 S0) 14 [(0, .ref (a0 0)), (1, .int p1), (2, .int p2), (3, .int p3)] [.int q16]
    refine V_if_eq C (off := 7) (tgt := 21) (by decide +kernel) (by decide) h (fun _ h => ?_) (fun _ h => ?_)
    · refine V_sub (ls' := [(0, .ref (a0 0)), (1, .int p1), (2, .int p2), (3, .int p3)]) rfl ?_
      exact cfX4_behind_j21 C hn h
    · refine V_pb C hn [(.iconst 1, 1)] (pc' := 18) (ls' := [(0, .ref (a0 0)), (1, .int p1), (2, .int p2), (3, .int p3)]) (st' := [.int (1 : Int32)]) (decB_ok (by decide +kernel)) rfl rfl ?_
      refine V_goto C (off := 4) (tgt := 22) (by decide +kernel) (by decide) ?_
      refine V_sub (ls' := [(0, .ref (a0 0)), (1, .int p1), (2, .int p2), (3, .int p3)]) rfl ?_
      exact cfX4_behind_j22 C hn h
set_option maxRecDepth 100000 in
set_option maxHeartbeats 400000 in
theorem cfX4_done {l : Launch} {G : GG} (a0 : Nat → Nat) {p1 : Int32} {p2 : Int32} {S0 : XT} {out : Int32 × XT} (h : fX4_done p1 p2 S0 = some out) : Con l G 5 yX4_done cX4_done 4 (some .int) [.ref (a0 0), .int p1, .int p2] (wdX G a0 S0) (some (.int out.1)) (wdX G a0 out.2) := by
  refine Con_of (by decide +kernel) (Nat.le_of_ble_eq_true rfl) (fun E hl hG hn C => ?_)
  subst hl
  subst hG
  have C : Ctx E cX4_done RX4 5 (some .int) := C
  show V E _ _ 0 [(0, .ref (a0 0)), (1, .int p1), (2, .int p2)] []
  unfold fX4_done at h
  refine V_pb C hn [(.aload_n 0, 1), (.iload_n 1, 1), (.iload_n 2, 1), (.iconst 1, 1)] (pc' := 4) (ls' := [(0, .ref (a0 0)), (1, .int p1), (2, .int p2)]) (st' := [.int (1 : Int32), .int p2, .int p1, .ref (a0 0)]) (decB_ok (by decide +kernel)) rfl rfl ?_
  obtain ⟨q1, h2, h⟩ := bnd h
  refine V_callV0 C (As := [.int p1, .int p2, .int (1 : Int32)]) (rest := []) (by decide +kernel) ok_yX4_sessionRefusal mk_RX4_291 (cfX4_sessionRefusal (l := E.l) (G := E.G) a0 h2) (q0 := 0) rfl rfl rfl rfl rfl rfl (Nat.le_of_ble_eq_true rfl) (Nat.le_of_ble_eq_true rfl) (Nat.le_of_ble_eq_true rfl) ?_
  show V E _ (wdX E.G a0 S0) 7 [(0, .ref (a0 0)), (1, .int p1), (2, .int p2)] [.int q1]
  refine V_pb C hn [(.istore_n 3, 1), (.iload_n 3, 1)] (pc' := 9) (ls' := [(0, .ref (a0 0)), (1, .int p1), (2, .int p2), (3, .int q1)]) (st' := [.int q1]) (decB_ok (by decide +kernel)) rfl rfl ?_
  refine V_if_eq C (off := 9) (tgt := 18) (by decide +kernel) (by decide) h (fun _ h => ?_) (fun _ h => ?_)
  · refine V_pb C hn [(.aload_n 0, 1)] (pc' := 19) (ls' := [(0, .ref (a0 0)), (1, .int p1), (2, .int p2), (3, .int q1)]) (st' := [.ref (a0 0)]) (decB_ok (by decide +kernel)) rfl rfl ?_
    refine V_get C (v := .ref (a0 4)) (by decide +kernel) 0 0 fk_RX4_12 rfl rfl ?_
    refine V_pb C hn [(.aload_n 0, 1)] (pc' := 23) (ls' := [(0, .ref (a0 0)), (1, .int p1), (2, .int p2), (3, .int q1)]) (st' := [.ref (a0 0), .ref (a0 4)]) (decB_ok (by decide +kernel)) rfl rfl ?_
    refine V_get C (v := .ref (a0 3)) (by decide +kernel) 0 4 fk_RX4_24 rfl rfl ?_
    refine V_pb C hn [(.iload_n 1, 1)] (pc' := 27) (ls' := [(0, .ref (a0 0)), (1, .int p1), (2, .int p2), (3, .int q1)]) (st' := [.int p1, .ref (a0 3), .ref (a0 4)]) (decB_ok (by decide +kernel)) rfl rfl ?_
    refine V_aald3 C (b := a0 (36 + 2 * ix p1)) (by decide +kernel) 3 3 rfl rfl h rfl (fun hf3 h => ?_)
    refine V_get C (v := .ref (a0 (36 + 2 * ix p1 + 1))) (by decide +kernel) (36 + 2 * ix p1) 4 fk_RX4_72 (fg_X_sh_0 (inb_lt hf3)) rfl ?_
    refine V_pb C hn [(.iload_n 2, 1)] (pc' := 32) (ls' := [(0, .ref (a0 0)), (1, .int p1), (2, .int p2), (3, .int q1)]) (st' := [.int p2, .ref (a0 (36 + 2 * ix p1 + 1)), .ref (a0 4)]) (decB_ok (by decide +kernel)) rfl rfl ?_
    obtain ⟨q4, h5, h⟩ := bnd h
    refine V_callV (ws' := wdX E.G a0 (xs_now S0 q4)) C (As := [.ref (a0 (36 + 2 * ix p1 + 1)), .int p2]) (rest := []) (by decide +kernel) ok_yX1_goThrough mk_RX4_295 (cfX1_goThrough (l := E.l) (G := E.G) (fun j => a0 (4 + j)) (fun j => a0 (36 + 2 * ix p1 + 1 + j)) h5) [4, 5, 6, 7, (36 + 2 * ix p1 + 1)] (q0 := 0) rfl (fcm_Hall_L40__now_sh__X (inb_lt hf3)) (fnm_Hall_L40__now_sh__X hf3) rfl (fsm_Hall_L40__now_sh__X hf3 _) rfl rfl rfl rfl (Nat.le_of_ble_eq_true rfl) (Nat.le_of_ble_eq_true rfl) (Nat.le_of_ble_eq_true rfl) ?_
    show V E _ (wdX E.G a0 (xs_now S0 q4)) 35 [(0, .ref (a0 0)), (1, .int p1), (2, .int p2), (3, .int q1)] []
    refine V_pb C hn [(.aload_n 0, 1)] (pc' := 36) (ls' := [(0, .ref (a0 0)), (1, .int p1), (2, .int p2), (3, .int q1)]) (st' := [.ref (a0 0)]) (decB_ok (by decide +kernel)) rfl rfl ?_
    refine V_get C (v := .ref (a0 4)) (by decide +kernel) 0 0 fk_RX4_12 rfl rfl ?_
    obtain ⟨q6, h7, h⟩ := bnd h
    refine V_callVp C (As := []) (rest := []) (by decide +kernel) ok_yX1_litWeight mk_RX4_204 (cfX1_litWeight (l := E.l) (G := E.G) (fun j => a0 (4 + j)) h7) [4, 5, 6, 7] (q0 := 0) rfl rfl rfl rfl rfl rfl rfl (Nat.le_of_ble_eq_true rfl) (Nat.le_of_ble_eq_true rfl) (Nat.le_of_ble_eq_true rfl) ?_
    show V E _ (wdX E.G a0 (xs_now S0 q4)) 42 [(0, .ref (a0 0)), (1, .int p1), (2, .int p2), (3, .int q1)] [.int q6]
    have h := Option.some.inj h
    subst h
    exact V_iret C (by decide +kernel) rfl
  · refine V_pb C hn [(.aload_n 0, 1), (.iload_n 3, 1)] (pc' := 14) (ls' := [(0, .ref (a0 0)), (1, .int p1), (2, .int p2), (3, .int q1)]) (st' := [.int q1, .ref (a0 0)]) (decB_ok (by decide +kernel)) rfl rfl ?_
    obtain ⟨q8, h9, h⟩ := bnd h
    refine V_callV0 C (As := [.int q1]) (rest := []) (by decide +kernel) ok_yX4_refuse mk_RX4_57 (cfX4_refuse (l := E.l) (G := E.G) a0 h9) (q0 := 0) rfl rfl rfl rfl rfl rfl (Nat.le_of_ble_eq_true rfl) (Nat.le_of_ble_eq_true rfl) (Nat.le_of_ble_eq_true rfl) ?_
    show V E _ (wdX E.G a0 q8.2) 17 [(0, .ref (a0 0)), (1, .int p1), (2, .int p2), (3, .int q1)] [.int q8.1]
    have h := Option.some.inj h
    subst h
    exact V_iret C (by decide +kernel) rfl
set_option maxRecDepth 100000 in
set_option maxHeartbeats 400000 in
theorem cfX4_steps_j11 {E : VE} (C : Ctx E cX4_steps RX4 4 (some .int)) (hn : E.nL = 2) {a0 : Nat → Nat} {p1 : Int32} {S0 : XT} {out : Int32 × XT} (h : fX4_steps_j11 p1 S0 = some out) : V E (QR E (some (.int out.1)) (wdX E.G a0 out.2)) (wdX E.G a0 S0) 11 [(0, .ref (a0 0))] [] := by
  unfold fX4_steps_j11 at h
  refine V_pb C hn [(.aload_n 0, 1), (.bipush (-2), 2)] (pc' := 14) (ls' := [(0, .ref (a0 0))]) (st' := [.int (cI (-2)), .ref (a0 0)]) (decB_ok (by decide +kernel)) rfl rfl ?_
  obtain ⟨q1, h2, h⟩ := bnd h
  refine V_callV0 C (As := [.int (cI (-2))]) (rest := []) (by decide +kernel) ok_yX4_refuse mk_RX4_57 (cfX4_refuse (l := E.l) (G := E.G) a0 h2) (q0 := 0) rfl rfl rfl rfl rfl rfl (Nat.le_of_ble_eq_true rfl) (Nat.le_of_ble_eq_true rfl) (Nat.le_of_ble_eq_true rfl) ?_
  show V E _ (wdX E.G a0 q1.2) 17 [(0, .ref (a0 0))] [.int q1.1]
  have h := Option.some.inj h
  subst h
  exact V_iret C (by decide +kernel) rfl
set_option maxRecDepth 100000 in
set_option maxHeartbeats 400000 in
theorem cfX4_steps {l : Launch} {G : GG} (a0 : Nat → Nat) {p1 : Int32} {S0 : XT} {out : Int32 × XT} (h : fX4_steps p1 S0 = some out) : Con l G 4 yX4_steps cX4_steps 2 (some .int) [.ref (a0 0), .int p1] (wdX G a0 S0) (some (.int out.1)) (wdX G a0 out.2) := by
  refine Con_of (by decide +kernel) (Nat.le_of_ble_eq_true rfl) (fun E hl hG hn C => ?_)
  subst hl
  subst hG
  have C : Ctx E cX4_steps RX4 4 (some .int) := C
  show V E _ _ 0 [(0, .ref (a0 0)), (1, .int p1)] []
  unfold fX4_steps at h
  refine V_pb C hn [(.iload_n 1, 1), (.iconst 1, 1)] (pc' := 2) (ls' := [(0, .ref (a0 0)), (1, .int p1)]) (st' := [.int (1 : Int32), .int p1]) (decB_ok (by decide +kernel)) rfl rfl ?_
  refine V_ic_lt C (off := 9) (tgt := 11) (by decide +kernel) (by decide) h (fun _ h => ?_) (fun _ h => ?_)
  · refine V_sub (ls' := [(0, .ref (a0 0))]) rfl ?_
    exact cfX4_steps_j11 C hn h
  · refine V_pb C hn [(.iload_n 1, 1), (.bipush 24, 2)] (pc' := 8) (ls' := [(0, .ref (a0 0)), (1, .int p1)]) (st' := [.int (24 : Int32), .int p1]) (decB_ok (by decide +kernel)) rfl rfl ?_
    refine V_ic_le C (off := 10) (tgt := 18) (by decide +kernel) (by decide) h (fun _ h => ?_) (fun _ h => ?_)
    · refine V_pb C hn [(.aload_n 0, 1)] (pc' := 19) (ls' := [(0, .ref (a0 0)), (1, .int p1)]) (st' := [.ref (a0 0)]) (decB_ok (by decide +kernel)) rfl rfl ?_
      refine V_get C (v := .ref (a0 4)) (by decide +kernel) 0 0 fk_RX4_12 rfl rfl ?_
      refine V_pb C hn [(.iload_n 1, 1)] (pc' := 23) (ls' := [(0, .ref (a0 0)), (1, .int p1)]) (st' := [.int p1, .ref (a0 4)]) (decB_ok (by decide +kernel)) rfl rfl ?_
      obtain ⟨q3, h4, h⟩ := bnd h
      refine V_callV (ws' := wdX E.G a0 (xs_now S0 q3)) C (As := [.int p1]) (rest := []) (by decide +kernel) ok_yX1_goOn mk_RX4_229 (cfX1_goOn (l := E.l) (G := E.G) (fun j => a0 (4 + j)) h4) [4, 5, 6, 7] (q0 := 0) rfl rfl rfl rfl rfl rfl rfl rfl rfl (Nat.le_of_ble_eq_true rfl) (Nat.le_of_ble_eq_true rfl) (Nat.le_of_ble_eq_true rfl) ?_
      show V E _ (wdX E.G a0 (xs_now S0 q3)) 26 [(0, .ref (a0 0)), (1, .int p1)] []
      refine V_pb C hn [(.aload_n 0, 1)] (pc' := 27) (ls' := [(0, .ref (a0 0)), (1, .int p1)]) (st' := [.ref (a0 0)]) (decB_ok (by decide +kernel)) rfl rfl ?_
      refine V_get C (v := .ref (a0 4)) (by decide +kernel) 0 0 fk_RX4_12 rfl rfl ?_
      obtain ⟨q5, h6, h⟩ := bnd h
      refine V_callVp C (As := []) (rest := []) (by decide +kernel) ok_yX1_litWeight mk_RX4_204 (cfX1_litWeight (l := E.l) (G := E.G) (fun j => a0 (4 + j)) h6) [4, 5, 6, 7] (q0 := 0) rfl rfl rfl rfl rfl rfl rfl (Nat.le_of_ble_eq_true rfl) (Nat.le_of_ble_eq_true rfl) (Nat.le_of_ble_eq_true rfl) ?_
      show V E _ (wdX E.G a0 (xs_now S0 q3)) 33 [(0, .ref (a0 0)), (1, .int p1)] [.int q5]
      have h := Option.some.inj h
      subst h
      exact V_iret C (by decide +kernel) rfl
    · refine V_sub (ls' := [(0, .ref (a0 0))]) rfl ?_
      exact cfX4_steps_j11 C hn h
set_option maxRecDepth 100000 in
set_option maxHeartbeats 400000 in
theorem cfX4_hours_j11 {E : VE} (C : Ctx E cX4_hours RX4 4 (some .int)) (hn : E.nL = 4) {a0 : Nat → Nat} {p1 : Int32} {S0 : XT} {out : Int32 × XT} (h : fX4_hours_j11 p1 S0 = some out) : V E (QR E (some (.int out.1)) (wdX E.G a0 out.2)) (wdX E.G a0 S0) 11 [(0, .ref (a0 0))] [] := by
  unfold fX4_hours_j11 at h
  refine V_pb C hn [(.aload_n 0, 1), (.bipush (-2), 2)] (pc' := 14) (ls' := [(0, .ref (a0 0))]) (st' := [.int (cI (-2)), .ref (a0 0)]) (decB_ok (by decide +kernel)) rfl rfl ?_
  obtain ⟨q1, h2, h⟩ := bnd h
  refine V_callV0 C (As := [.int (cI (-2))]) (rest := []) (by decide +kernel) ok_yX4_refuse mk_RX4_57 (cfX4_refuse (l := E.l) (G := E.G) a0 h2) (q0 := 0) rfl rfl rfl rfl rfl rfl (Nat.le_of_ble_eq_true rfl) (Nat.le_of_ble_eq_true rfl) (Nat.le_of_ble_eq_true rfl) ?_
  show V E _ (wdX E.G a0 q1.2) 17 [(0, .ref (a0 0))] [.int q1.1]
  have h := Option.some.inj h
  subst h
  exact V_iret C (by decide +kernel) rfl
set_option maxRecDepth 100000 in
set_option maxHeartbeats 400000 in
theorem cfX4_hours_L22 {E : VE} (C : Ctx E cX4_hours RX4 4 (some .int)) (hn : E.nL = 4) {a0 : Nat → Nat} {p1 : Int32} {out : Int32 × XT} : ∀ (n : Nat) (v2 : Int32) (v3 : Int32) (S0 : XT), fX4_hours_L22 p1 n v2 v3 S0 = some out → V E (QR E (some (.int out.1)) (wdX E.G a0 out.2)) (wdX E.G a0 S0) 22 [(0, .ref (a0 0)), (1, .int p1), (2, .int v2), (3, .int v3)] [] := by
  intro n
  induction n with
  | zero =>
    intro v2 v3 S0 h
    cases h
  | succ n ih =>
    intro v2 v3 S0 h
    unfold fX4_hours_L22 at h
    refine V_pb C hn [(.iload_n 3, 1), (.iload_n 1, 1)] (pc' := 24) (ls' := [(0, .ref (a0 0)), (1, .int p1), (2, .int v2), (3, .int v3)]) (st' := [.int p1, .int v3]) (decB_ok (by decide +kernel)) rfl rfl ?_
    refine V_ic_ge C (off := 37) (tgt := 61) (by decide +kernel) (by decide) h (fun _ h => ?_) (fun _ h => ?_)
    · refine V_pb C hn [(.iload_n 2, 1)] (pc' := 62) (ls' := [(0, .ref (a0 0)), (1, .int p1), (2, .int v2), (3, .int v3)]) (st' := [.int v2]) (decB_ok (by decide +kernel)) rfl rfl ?_
      have h := Option.some.inj h
      subst h
      exact V_iret C (by decide +kernel) rfl
    · refine V_pb C hn [(.aload_n 0, 1)] (pc' := 28) (ls' := [(0, .ref (a0 0)), (1, .int p1), (2, .int v2), (3, .int v3)]) (st' := [.ref (a0 0)]) (decB_ok (by decide +kernel)) rfl rfl ?_
      refine V_get C (v := .ref (a0 4)) (by decide +kernel) 0 0 fk_RX4_12 rfl rfl ?_
      obtain ⟨q3, h4, h⟩ := bnd h
      refine V_callV (ws' := wdX E.G a0 (xs_now S0 q3)) C (As := []) (rest := []) (by decide +kernel) ok_yX1_drawDoors mk_RX4_299 (cfX1_drawDoors (l := E.l) (G := E.G) (fun j => a0 (4 + j)) h4) [4, 5, 6, 7] (q0 := 0) rfl rfl rfl rfl rfl rfl rfl rfl rfl (Nat.le_of_ble_eq_true rfl) (Nat.le_of_ble_eq_true rfl) (Nat.le_of_ble_eq_true rfl) ?_
      show V E _ (wdX E.G a0 (xs_now S0 q3)) 34 [(0, .ref (a0 0)), (1, .int p1), (2, .int v2), (3, .int v3)] []
      refine V_pb C hn [(.aload_n 0, 1)] (pc' := 35) (ls' := [(0, .ref (a0 0)), (1, .int p1), (2, .int v2), (3, .int v3)]) (st' := [.ref (a0 0)]) (decB_ok (by decide +kernel)) rfl rfl ?_
      refine V_get C (v := .ref (a0 4)) (by decide +kernel) 0 0 fk_RX4_12 rfl rfl ?_
      refine V_pb C hn [(.iconst 1, 1)] (pc' := 39) (ls' := [(0, .ref (a0 0)), (1, .int p1), (2, .int v2), (3, .int v3)]) (st' := [.int (1 : Int32), .ref (a0 4)]) (decB_ok (by decide +kernel)) rfl rfl ?_
      obtain ⟨q5, h6, h⟩ := bnd h
      refine V_callV (ws' := wdX E.G a0 (xs_now S0 q5)) C (As := [.int (1 : Int32)]) (rest := []) (by decide +kernel) ok_yX1_goOn mk_RX4_229 (cfX1_goOn (l := E.l) (G := E.G) (fun j => a0 (4 + j)) h6) [4, 5, 6, 7] (q0 := 0) rfl rfl rfl rfl rfl rfl rfl rfl rfl (Nat.le_of_ble_eq_true rfl) (Nat.le_of_ble_eq_true rfl) (Nat.le_of_ble_eq_true rfl) ?_
      show V E _ (wdX E.G a0 (xs_now S0 q5)) 42 [(0, .ref (a0 0)), (1, .int p1), (2, .int v2), (3, .int v3)] []
      refine V_pb C hn [(.iload_n 2, 1), (.aload_n 0, 1)] (pc' := 44) (ls' := [(0, .ref (a0 0)), (1, .int p1), (2, .int v2), (3, .int v3)]) (st' := [.ref (a0 0), .int v2]) (decB_ok (by decide +kernel)) rfl rfl ?_
      refine V_get C (v := .ref (a0 4)) (by decide +kernel) 0 0 fk_RX4_12 rfl rfl ?_
      obtain ⟨q7, h8, h⟩ := bnd h
      refine V_callVp C (As := []) (rest := [.int v2]) (by decide +kernel) ok_yX1_carries mk_RX4_208 (cfX1_carries (l := E.l) (G := E.G) (fun j => a0 (4 + j)) h8) [4, 5, 6, 7] (q0 := 0) rfl rfl rfl rfl rfl rfl rfl (Nat.le_of_ble_eq_true rfl) (Nat.le_of_ble_eq_true rfl) (Nat.le_of_ble_eq_true rfl) ?_
      show V E _ (wdX E.G a0 (xs_now S0 q5)) 50 [(0, .ref (a0 0)), (1, .int p1), (2, .int v2), (3, .int v3)] [.int q7, .int v2]
      obtain ⟨q9, h10, h⟩ := bnd h
      refine V_callSp C (As := [.int q7]) (rest := [.int v2]) (by decide +kernel) ok_yX4_bit mk_RX4_184 (cfX4_bit (l := E.l) (G := E.G) h10) [] rfl rfl rfl rfl (Nat.le_of_ble_eq_true rfl) (Nat.le_of_ble_eq_true rfl) (Nat.le_of_ble_eq_true rfl) ?_
      show V E _ (wdX E.G a0 (xs_now S0 q5)) 53 [(0, .ref (a0 0)), (1, .int p1), (2, .int v2), (3, .int v3)] [.int q9, .int v2]
      refine V_pb C hn [(.iadd, 1), (.istore_n 2, 1), (.iinc 3 1, 3)] (pc' := 58) (ls' := [(0, .ref (a0 0)), (1, .int p1), (2, .int (v2 + q9)), (3, .int (v3 + (1 : Int32)))]) (st' := []) (decB_ok (by decide +kernel)) rfl rfl ?_
      refine V_goto C (off := -36) (tgt := 22) (by decide +kernel) (by decide) ?_
      refine V_sub (ls' := [(0, .ref (a0 0)), (1, .int p1), (2, .int (v2 + q9)), (3, .int (v3 + (1 : Int32)))]) rfl ?_
      exact ih _ _ _ h
set_option maxRecDepth 100000 in
set_option maxHeartbeats 400000 in
theorem cfX4_hours {l : Launch} {G : GG} (a0 : Nat → Nat) {p1 : Int32} {S0 : XT} {out : Int32 × XT} (h : fX4_hours p1 S0 = some out) : Con l G 4 yX4_hours cX4_hours 4 (some .int) [.ref (a0 0), .int p1] (wdX G a0 S0) (some (.int out.1)) (wdX G a0 out.2) := by
  refine Con_of (by decide +kernel) (Nat.le_of_ble_eq_true rfl) (fun E hl hG hn C => ?_)
  subst hl
  subst hG
  have C : Ctx E cX4_hours RX4 4 (some .int) := C
  show V E _ _ 0 [(0, .ref (a0 0)), (1, .int p1)] []
  unfold fX4_hours at h
  refine V_pb C hn [(.iload_n 1, 1), (.iconst 1, 1)] (pc' := 2) (ls' := [(0, .ref (a0 0)), (1, .int p1)]) (st' := [.int (1 : Int32), .int p1]) (decB_ok (by decide +kernel)) rfl rfl ?_
  refine V_ic_lt C (off := 9) (tgt := 11) (by decide +kernel) (by decide) h (fun _ h => ?_) (fun _ h => ?_)
  · refine V_sub (ls' := [(0, .ref (a0 0))]) rfl ?_
    exact cfX4_hours_j11 C hn h
  · refine V_pb C hn [(.iload_n 1, 1), (.bipush 60, 2)] (pc' := 8) (ls' := [(0, .ref (a0 0)), (1, .int p1)]) (st' := [.int (60 : Int32), .int p1]) (decB_ok (by decide +kernel)) rfl rfl ?_
    refine V_ic_le C (off := 10) (tgt := 18) (by decide +kernel) (by decide) h (fun _ h => ?_) (fun _ h => ?_)
    · refine V_pb C hn [(.iconst 0, 1), (.istore_n 2, 1), (.iconst 0, 1), (.istore_n 3, 1)] (pc' := 22) (ls' := [(0, .ref (a0 0)), (1, .int p1), (2, .int (0 : Int32)), (3, .int (0 : Int32))]) (st' := []) (decB_ok (by decide +kernel)) rfl rfl ?_
      refine V_sub (ls' := [(0, .ref (a0 0)), (1, .int p1), (2, .int (0 : Int32)), (3, .int (0 : Int32))]) rfl ?_
      exact cfX4_hours_L22 C hn FU _ _ _ h
    · refine V_sub (ls' := [(0, .ref (a0 0))]) rfl ?_
      exact cfX4_hours_j11 C hn h
set_option maxRecDepth 100000 in
set_option maxHeartbeats 400000 in
theorem cfX4_seed {l : Launch} {G : GG} (a0 : Nat → Nat) {p1 : Int32} {S0 : XT} {out : Int32 × XT} (h : fX4_seed p1 S0 = some out) : Con l G 0 yX4_seed cX4_seed 3 (some .int) [.ref (a0 0), .int p1] (wdX G a0 S0) (some (.int out.1)) (wdX G a0 out.2) := by
  refine Con_of (by decide +kernel) (Nat.le_of_ble_eq_true rfl) (fun E hl hG hn C => ?_)
  subst hl
  subst hG
  have C : Ctx E cX4_seed RX4 0 (some .int) := C
  show V E _ _ 0 [(0, .ref (a0 0)), (1, .int p1)] []
  unfold fX4_seed at h
  refine V_pb C hn [(.aload_n 0, 1)] (pc' := 1) (ls' := [(0, .ref (a0 0)), (1, .int p1)]) (st' := [.ref (a0 0)]) (decB_ok (by decide +kernel)) rfl rfl ?_
  refine V_get C (v := .ref (a0 4)) (by decide +kernel) 0 0 fk_RX4_12 rfl rfl ?_
  refine V_get C (v := .int (h_seed (x_now S0))) (by decide +kernel) 4 11 fk_RX4_302 rfl rfl ?_
  refine V_pb C hn [(.istore_n 2, 1), (.aload_n 0, 1)] (pc' := 9) (ls' := [(0, .ref (a0 0)), (1, .int p1), (2, .int (h_seed (x_now S0)))]) (st' := [.ref (a0 0)]) (decB_ok (by decide +kernel)) rfl rfl ?_
  refine V_get C (v := .ref (a0 4)) (by decide +kernel) 0 0 fk_RX4_12 rfl rfl ?_
  refine V_pb C hn [(.iload_n 1, 1)] (pc' := 13) (ls' := [(0, .ref (a0 0)), (1, .int p1), (2, .int (h_seed (x_now S0)))]) (st' := [.int p1, .ref (a0 4)]) (decB_ok (by decide +kernel)) rfl rfl ?_
  refine V_put C (v := .int p1) (ws' := wdX E.G a0 (xs_now S0 (hs_seed (x_now S0) p1))) (by decide +kernel) 4 11 pk_RX4_302 rfl rfl rfl (Nat.le_of_ble_eq_true rfl) rfl ?_
  refine V_pb C hn [(.iload_n 2, 1)] (pc' := 17) (ls' := [(0, .ref (a0 0)), (1, .int p1), (2, .int (h_seed (x_now S0)))]) (st' := [.int (h_seed (x_now S0))]) (decB_ok (by decide +kernel)) rfl rfl ?_
  have h := Option.some.inj h
  subst h
  exact V_iret C (by decide +kernel) rfl
set_option maxRecDepth 100000 in
set_option maxHeartbeats 400000 in
theorem cfX4_image {l : Launch} {G : GG} (a0 : Nat → Nat) {S0 : XT} {out : Int32 × XT} (h : fX4_image S0 = some out) : Con l G 3 yX4_image cX4_image 1 (some .int) [.ref (a0 0)] (wdX G a0 S0) (some (.int out.1)) (wdX G a0 out.2) := by
  refine Con_of (by decide +kernel) (Nat.le_of_ble_eq_true rfl) (fun E hl hG hn C => ?_)
  subst hl
  subst hG
  have C : Ctx E cX4_image RX4 3 (some .int) := C
  show V E _ _ 0 [(0, .ref (a0 0))] []
  unfold fX4_image at h
  refine V_pb C hn [(.aload_n 0, 1)] (pc' := 1) (ls' := [(0, .ref (a0 0))]) (st' := [.ref (a0 0)]) (decB_ok (by decide +kernel)) rfl rfl ?_
  refine V_get C (v := .ref (a0 8)) (by decide +kernel) 0 1 fk_RX4_16 rfl rfl ?_
  refine V_pb C hn [(.aload_n 0, 1)] (pc' := 5) (ls' := [(0, .ref (a0 0))]) (st' := [.ref (a0 0), .ref (a0 8)]) (decB_ok (by decide +kernel)) rfl rfl ?_
  refine V_get C (v := .ref (a0 4)) (by decide +kernel) 0 0 fk_RX4_12 rfl rfl ?_
  obtain ⟨q1, h2, h⟩ := bnd h
  refine V_callV (ws' := wdX E.G a0 (xs_kept S0 q1)) C (As := [.ref (a0 4)]) (rest := []) (by decide +kernel) ok_yX1_takeOver mk_RX4_170 (cfX1_takeOver (l := E.l) (G := E.G) (fun j => a0 (8 + j)) (fun j => a0 (4 + j)) h2) [8, 9, 10, 11, 4, 5, 6, 7] (q0 := 0) rfl rfl rfl rfl rfl rfl rfl rfl rfl (Nat.le_of_ble_eq_true rfl) (Nat.le_of_ble_eq_true rfl) (Nat.le_of_ble_eq_true rfl) ?_
  show V E _ (wdX E.G a0 (xs_kept S0 q1)) 11 [(0, .ref (a0 0))] []
  refine V_pb C hn [(.aload_n 0, 1), (.iconst 1, 1)] (pc' := 13) (ls' := [(0, .ref (a0 0))]) (st' := [.int (1 : Int32), .ref (a0 0)]) (decB_ok (by decide +kernel)) rfl rfl ?_
  refine V_put C (v := .int (1 : Int32)) (ws' := wdX E.G a0 (xs_isKept (xs_kept S0 q1) (1 : Int32))) (by decide +kernel) 0 3 pk_RX4_305 rfl rfl rfl (Nat.le_of_ble_eq_true rfl) rfl ?_
  refine V_pb C hn [(.iconst 1, 1)] (pc' := 17) (ls' := [(0, .ref (a0 0))]) (st' := [.int (1 : Int32)]) (decB_ok (by decide +kernel)) rfl rfl ?_
  have h := Option.some.inj h
  subst h
  exact V_iret C (by decide +kernel) rfl
set_option maxRecDepth 100000 in
set_option maxHeartbeats 400000 in
theorem cfX4_back_j71 {E : VE} (C : Ctx E cX4_back RX4 3 (some .int)) (hn : E.nL = 2) {a0 : Nat → Nat} {v1 : Int32} {S0 : XT} {out : Int32 × XT} {k27 : Int32 → XT → Option (Int32 × XT)} (hk27 : ∀ (v1 : Int32) (S0 : XT), k27 v1 S0 = some out → V E (QR E (some (.int out.1)) (wdX E.G a0 out.2)) (wdX E.G a0 S0) 27 [(0, .ref (a0 0)), (1, .int v1)] []) (h : fX4_back_j71 k27 v1 S0 = some out) : V E (QR E (some (.int out.1)) (wdX E.G a0 out.2)) (wdX E.G a0 S0) 71 [(0, .ref (a0 0)), (1, .int v1)] [] := by
  unfold fX4_back_j71 at h
  refine V_pb C hn [(.iinc 1 1, 3)] (pc' := 74) (ls' := [(0, .ref (a0 0)), (1, .int (v1 + (1 : Int32)))]) (st' := []) (decB_ok (by decide +kernel)) rfl rfl ?_
  refine V_goto C (off := -47) (tgt := 27) (by decide +kernel) (by decide) ?_
  refine V_sub (ls' := [(0, .ref (a0 0)), (1, .int (v1 + (1 : Int32)))]) rfl ?_
  exact hk27 _ _ h
set_option maxRecDepth 100000 in
set_option maxHeartbeats 400000 in
theorem cfX4_back_L27 {E : VE} (C : Ctx E cX4_back RX4 3 (some .int)) (hn : E.nL = 2) {a0 : Nat → Nat} {out : Int32 × XT} : ∀ (n : Nat) (v1 : Int32) (S0 : XT), fX4_back_L27 n v1 S0 = some out → V E (QR E (some (.int out.1)) (wdX E.G a0 out.2)) (wdX E.G a0 S0) 27 [(0, .ref (a0 0)), (1, .int v1)] [] := by
  intro n
  induction n with
  | zero =>
    intro v1 S0 h
    cases h
  | succ n ih =>
    intro v1 S0 h
    unfold fX4_back_L27 at h
    refine V_pb C hn [(.iload_n 1, 1), (.bipush 8, 2)] (pc' := 30) (ls' := [(0, .ref (a0 0)), (1, .int v1)]) (st' := [.int (8 : Int32), .int v1]) (decB_ok (by decide +kernel)) rfl rfl ?_
    refine V_ic_ge C (off := 47) (tgt := 77) (by decide +kernel) (by decide) h (fun _ h => ?_) (fun _ h => ?_)
    · refine V_pb C hn [(.iconst 1, 1)] (pc' := 78) (ls' := [(0, .ref (a0 0)), (1, .int v1)]) (st' := [.int (1 : Int32)]) (decB_ok (by decide +kernel)) rfl rfl ?_
      have h := Option.some.inj h
      subst h
      exact V_iret C (by decide +kernel) rfl
    · refine V_pb C hn [(.aload_n 0, 1)] (pc' := 34) (ls' := [(0, .ref (a0 0)), (1, .int v1)]) (st' := [.ref (a0 0)]) (decB_ok (by decide +kernel)) rfl rfl ?_
      refine V_get C (v := .ref (a0 3)) (by decide +kernel) 0 4 fk_RX4_24 rfl rfl ?_
      refine V_pb C hn [(.iload_n 1, 1)] (pc' := 38) (ls' := [(0, .ref (a0 0)), (1, .int v1)]) (st' := [.int v1, .ref (a0 3)]) (decB_ok (by decide +kernel)) rfl rfl ?_
      refine V_aald3 C (b := a0 (36 + 2 * ix v1)) (by decide +kernel) 3 3 rfl rfl h rfl (fun hf5 h => ?_)
      refine V_get C (v := .int (sh_held ((x_sh S0) (ix v1)))) (by decide +kernel) (36 + 2 * ix v1) 0 fk_RX4_84 (fg_X_sh_0 (inb_lt hf5)) rfl ?_
      refine V_pb C hn [(.iconst 2, 1)] (pc' := 43) (ls' := [(0, .ref (a0 0)), (1, .int v1)]) (st' := [.int (2 : Int32), .int (sh_held ((x_sh S0) (ix v1)))]) (decB_ok (by decide +kernel)) rfl rfl ?_
      refine V_ic_ne C (off := 28) (tgt := 71) (by decide +kernel) (by decide) h (fun _ h => ?_) (fun _ h => ?_)
      · refine V_pb C hn [(.aload_n 0, 1), (.aload_n 0, 1)] (pc' := 48) (ls' := [(0, .ref (a0 0)), (1, .int v1)]) (st' := [.ref (a0 0), .ref (a0 0)]) (decB_ok (by decide +kernel)) rfl rfl ?_
        refine V_get C (v := .ref (a0 3)) (by decide +kernel) 0 4 fk_RX4_24 rfl rfl ?_
        refine V_pb C hn [(.iload_n 1, 1)] (pc' := 52) (ls' := [(0, .ref (a0 0)), (1, .int v1)]) (st' := [.int v1, .ref (a0 3), .ref (a0 0)]) (decB_ok (by decide +kernel)) rfl rfl ?_
        refine V_aald3 C (b := a0 (36 + 2 * ix v1)) (by decide +kernel) 3 3 rfl rfl h rfl (fun hf6 h => ?_)
        refine V_get C (v := .int (sh_number ((x_sh S0) (ix v1)))) (by decide +kernel) (36 + 2 * ix v1) 3 fk_RX4_97 (fg_X_sh_0 (inb_lt hf6)) rfl ?_
        obtain ⟨q7, h8, h⟩ := bnd h
        refine V_callV0 C (As := [.int (sh_number ((x_sh S0) (ix v1)))]) (rest := []) (by decide +kernel) ok_yX4_isMote mk_RX4_100 (cfX4_isMote (l := E.l) (G := E.G) a0 h8) (q0 := 0) rfl rfl rfl rfl rfl rfl (Nat.le_of_ble_eq_true rfl) (Nat.le_of_ble_eq_true rfl) (Nat.le_of_ble_eq_true rfl) ?_
        show V E _ (wdX E.G a0 S0) 59 [(0, .ref (a0 0)), (1, .int v1)] [.int q7]
        refine V_if_ne C (off := 12) (tgt := 71) (by decide +kernel) (by decide) h (fun _ h => ?_) (fun _ h => ?_)
        · refine V_pb C hn [(.aload_n 0, 1)] (pc' := 63) (ls' := [(0, .ref (a0 0)), (1, .int v1)]) (st' := [.ref (a0 0)]) (decB_ok (by decide +kernel)) rfl rfl ?_
          refine V_get C (v := .ref (a0 3)) (by decide +kernel) 0 4 fk_RX4_24 rfl rfl ?_
          refine V_pb C hn [(.iload_n 1, 1)] (pc' := 67) (ls' := [(0, .ref (a0 0)), (1, .int v1)]) (st' := [.int v1, .ref (a0 3)]) (decB_ok (by decide +kernel)) rfl rfl ?_
          refine V_aald3 C (b := a0 (36 + 2 * ix v1)) (by decide +kernel) 3 3 rfl rfl h rfl (fun hf9 h => ?_)
          obtain ⟨q10, h11, h⟩ := bnd h
          obtain ⟨w12, e13, h⟩ := bnd h
          refine V_callV (ws' := wdX E.G a0 w12) C (As := []) (rest := []) (by decide +kernel) ok_yX2_clear mk_RX4_103 (cfX2_clear (l := E.l) (G := E.G) (fun j => a0 (36 + 2 * ix v1 + j)) h11) [(36 + 2 * ix v1), (36 + 2 * ix v1 + 1)] (q0 := 0) rfl (fc_X_sh (inb_lt hf9)) fn_X_sh rfl (by cases e13; exact (fs_X_sh (inb_lt hf9) _)) rfl rfl rfl rfl (Nat.le_of_ble_eq_true rfl) (Nat.le_of_ble_eq_true rfl) (Nat.le_of_ble_eq_true rfl) ?_
          show V E _ (wdX E.G a0 w12) 71 [(0, .ref (a0 0)), (1, .int v1)] []
          refine V_sub (ls' := [(0, .ref (a0 0)), (1, .int v1)]) rfl ?_
          exact cfX4_back_j71 C hn (k27 := (fun v1 S0 => fX4_back_L27 n v1 S0)) (fun v1 S0 h => ih v1 S0 h) h
        · refine V_sub (ls' := [(0, .ref (a0 0)), (1, .int v1)]) rfl ?_
          exact cfX4_back_j71 C hn (k27 := (fun v1 S0 => fX4_back_L27 n v1 S0)) (fun v1 S0 h => ih v1 S0 h) h
      · refine V_sub (ls' := [(0, .ref (a0 0)), (1, .int v1)]) rfl ?_
        exact cfX4_back_j71 C hn (k27 := (fun v1 S0 => fX4_back_L27 n v1 S0)) (fun v1 S0 h => ih v1 S0 h) h
set_option maxRecDepth 100000 in
set_option maxHeartbeats 400000 in
theorem cfX4_back {l : Launch} {G : GG} (a0 : Nat → Nat) {S0 : XT} {out : Int32 × XT} (h : fX4_back S0 = some out) : Con l G 3 yX4_back cX4_back 2 (some .int) [.ref (a0 0)] (wdX G a0 S0) (some (.int out.1)) (wdX G a0 out.2) := by
  refine Con_of (by decide +kernel) (Nat.le_of_ble_eq_true rfl) (fun E hl hG hn C => ?_)
  subst hl
  subst hG
  have C : Ctx E cX4_back RX4 3 (some .int) := C
  show V E _ _ 0 [(0, .ref (a0 0))] []
  unfold fX4_back at h
  refine V_pb C hn [(.aload_n 0, 1)] (pc' := 1) (ls' := [(0, .ref (a0 0))]) (st' := [.ref (a0 0)]) (decB_ok (by decide +kernel)) rfl rfl ?_
  refine V_get C (v := .int (x_isKept S0)) (by decide +kernel) 0 3 fk_RX4_305 rfl rfl ?_
  refine V_if_ne C (off := 10) (tgt := 14) (by decide +kernel) (by decide) h (fun _ h => ?_) (fun _ h => ?_)
  · refine V_pb C hn [(.aload_n 0, 1), (.bipush (-5), 2)] (pc' := 10) (ls' := [(0, .ref (a0 0))]) (st' := [.int (cI (-5)), .ref (a0 0)]) (decB_ok (by decide +kernel)) rfl rfl ?_
    obtain ⟨q1, h2, h⟩ := bnd h
    refine V_callV0 C (As := [.int (cI (-5))]) (rest := []) (by decide +kernel) ok_yX4_refuse mk_RX4_57 (cfX4_refuse (l := E.l) (G := E.G) a0 h2) (q0 := 0) rfl rfl rfl rfl rfl rfl (Nat.le_of_ble_eq_true rfl) (Nat.le_of_ble_eq_true rfl) (Nat.le_of_ble_eq_true rfl) ?_
    show V E _ (wdX E.G a0 q1.2) 13 [(0, .ref (a0 0))] [.int q1.1]
    have h := Option.some.inj h
    subst h
    exact V_iret C (by decide +kernel) rfl
  · refine V_pb C hn [(.aload_n 0, 1)] (pc' := 15) (ls' := [(0, .ref (a0 0))]) (st' := [.ref (a0 0)]) (decB_ok (by decide +kernel)) rfl rfl ?_
    refine V_get C (v := .ref (a0 4)) (by decide +kernel) 0 0 fk_RX4_12 rfl rfl ?_
    refine V_pb C hn [(.aload_n 0, 1)] (pc' := 19) (ls' := [(0, .ref (a0 0))]) (st' := [.ref (a0 0), .ref (a0 4)]) (decB_ok (by decide +kernel)) rfl rfl ?_
    refine V_get C (v := .ref (a0 8)) (by decide +kernel) 0 1 fk_RX4_16 rfl rfl ?_
    obtain ⟨q3, h4, h⟩ := bnd h
    refine V_callV (ws' := wdX E.G a0 (xs_now S0 q3)) C (As := [.ref (a0 8)]) (rest := []) (by decide +kernel) ok_yX1_takeOver mk_RX4_170 (cfX1_takeOver (l := E.l) (G := E.G) (fun j => a0 (4 + j)) (fun j => a0 (8 + j)) h4) [4, 5, 6, 7, 8, 9, 10, 11] (q0 := 0) rfl rfl rfl rfl rfl rfl rfl rfl rfl (Nat.le_of_ble_eq_true rfl) (Nat.le_of_ble_eq_true rfl) (Nat.le_of_ble_eq_true rfl) ?_
    show V E _ (wdX E.G a0 (xs_now S0 q3)) 25 [(0, .ref (a0 0))] []
    refine V_pb C hn [(.iconst 0, 1), (.istore_n 1, 1)] (pc' := 27) (ls' := [(0, .ref (a0 0)), (1, .int (0 : Int32))]) (st' := []) (decB_ok (by decide +kernel)) rfl rfl ?_
    refine V_sub (ls' := [(0, .ref (a0 0)), (1, .int (0 : Int32))]) rfl ?_
    exact cfX4_back_L27 C hn FU _ _ h
set_option maxRecDepth 100000 in
set_option maxHeartbeats 400000 in
theorem cfX4_filledShelves_j28 {E : VE} (C : Ctx E cX4_filledShelves RX4 1 (some .int)) (hn : E.nL = 3) {a0 : Nat → Nat} {S0 : XT} {v2 : Int32} {s0 : Int32} {s1 : Int32} {out : Int32} {k4 : Int32 → Int32 → Option (Int32)} (hk4 : ∀ (v1 : Int32) (v2 : Int32), k4 v1 v2 = some out → V E (QR E (some (.int out)) (wdX E.G a0 S0)) (wdX E.G a0 S0) 4 [(0, .ref (a0 0)), (1, .int v1), (2, .int v2)] []) (h : fX4_filledShelves_j28 k4 S0 v2 s0 s1 = some out) : V E (QR E (some (.int out)) (wdX E.G a0 S0)) (wdX E.G a0 S0) 28 [(0, .ref (a0 0)), (2, .int v2)] [.int s0, .int s1] := by
  unfold fX4_filledShelves_j28 at h
  obtain ⟨q2, h3, h⟩ := bnd h
  refine V_callSp C (As := [.int s0]) (rest := [.int s1]) (by decide +kernel) ok_yX4_bit mk_RX4_184 (cfX4_bit (l := E.l) (G := E.G) h3) [] rfl rfl rfl rfl (Nat.le_of_ble_eq_true rfl) (Nat.le_of_ble_eq_true rfl) (Nat.le_of_ble_eq_true rfl) ?_
  show V E _ (wdX E.G a0 S0) 31 [(0, .ref (a0 0)), (2, .int v2)] [.int q2, .int s1]
  refine V_pb C hn [(.iadd, 1), (.istore_n 1, 1), (.iinc 2 1, 3)] (pc' := 36) (ls' := [(0, .ref (a0 0)), (1, .int (s1 + q2)), (2, .int (v2 + (1 : Int32)))]) (st' := []) (decB_ok (by decide +kernel)) rfl rfl ?_
  refine V_goto C (off := -32) (tgt := 4) (by decide +kernel) (by decide) ?_
  refine V_sub (ls' := [(0, .ref (a0 0)), (1, .int (s1 + q2)), (2, .int (v2 + (1 : Int32)))]) rfl ?_
  exact hk4 _ _ h
set_option maxRecDepth 100000 in
set_option maxHeartbeats 400000 in
theorem cfX4_filledShelves_L4 {E : VE} (C : Ctx E cX4_filledShelves RX4 1 (some .int)) (hn : E.nL = 3) {a0 : Nat → Nat} {S0 : XT} {out : Int32} : ∀ (n : Nat) (v1 : Int32) (v2 : Int32), fX4_filledShelves_L4 S0 n v1 v2 = some out → V E (QR E (some (.int out)) (wdX E.G a0 S0)) (wdX E.G a0 S0) 4 [(0, .ref (a0 0)), (1, .int v1), (2, .int v2)] [] := by
  intro n
  induction n with
  | zero =>
    intro v1 v2 h
    cases h
  | succ n ih =>
    intro v1 v2 h
    unfold fX4_filledShelves_L4 at h
    refine V_pb C hn [(.iload_n 2, 1), (.bipush 8, 2)] (pc' := 7) (ls' := [(0, .ref (a0 0)), (1, .int v1), (2, .int v2)]) (st' := [.int (8 : Int32), .int v2]) (decB_ok (by decide +kernel)) rfl rfl ?_
    refine V_ic_ge C (off := 32) (tgt := 39) (by decide +kernel) (by decide) h (fun _ h => ?_) (fun _ h => ?_)
    · refine V_pb C hn [(.iload_n 1, 1)] (pc' := 40) (ls' := [(0, .ref (a0 0)), (1, .int v1), (2, .int v2)]) (st' := [.int v1]) (decB_ok (by decide +kernel)) rfl rfl ?_
      have h := Option.some.inj h
      subst h
      exact V_iret C (by decide +kernel) rfl
    · refine V_pb C hn [(.iload_n 1, 1), (.aload_n 0, 1)] (pc' := 12) (ls' := [(0, .ref (a0 0)), (1, .int v1), (2, .int v2)]) (st' := [.ref (a0 0), .int v1]) (decB_ok (by decide +kernel)) rfl rfl ?_
      refine V_get C (v := .ref (a0 3)) (by decide +kernel) 0 4 fk_RX4_24 rfl rfl ?_
      refine V_pb C hn [(.iload_n 2, 1)] (pc' := 16) (ls' := [(0, .ref (a0 0)), (1, .int v1), (2, .int v2)]) (st' := [.int v2, .ref (a0 3), .int v1]) (decB_ok (by decide +kernel)) rfl rfl ?_
      refine V_aald3 C (b := a0 (36 + 2 * ix v2)) (by decide +kernel) 3 3 rfl rfl h rfl (fun hf1 h => ?_)
      refine V_get C (v := .int (sh_held ((x_sh S0) (ix v2)))) (by decide +kernel) (36 + 2 * ix v2) 0 fk_RX4_84 (fg_X_sh_0 (inb_lt hf1)) rfl ?_
      refine V_if_eq C (off := 7) (tgt := 27) (by decide +kernel) (by decide) h (fun _ h => ?_) (fun _ h => ?_)
      · refine V_pb C hn [(.iconst 0, 1)] (pc' := 28) (ls' := [(0, .ref (a0 0)), (1, .int v1), (2, .int v2)]) (st' := [.int (0 : Int32), .int v1]) (decB_ok (by decide +kernel)) rfl rfl ?_
        refine V_sub (ls' := [(0, .ref (a0 0)), (2, .int v2)]) rfl ?_
        exact cfX4_filledShelves_j28 C hn (k4 := (fun v1 v2 => fX4_filledShelves_L4 S0 n v1 v2)) (fun v1 v2 h => ih v1 v2 h) h
      · refine V_pb C hn [(.iconst 1, 1)] (pc' := 24) (ls' := [(0, .ref (a0 0)), (1, .int v1), (2, .int v2)]) (st' := [.int (1 : Int32), .int v1]) (decB_ok (by decide +kernel)) rfl rfl ?_
        refine V_goto C (off := 4) (tgt := 28) (by decide +kernel) (by decide) ?_
        refine V_sub (ls' := [(0, .ref (a0 0)), (2, .int v2)]) rfl ?_
        exact cfX4_filledShelves_j28 C hn (k4 := (fun v1 v2 => fX4_filledShelves_L4 S0 n v1 v2)) (fun v1 v2 h => ih v1 v2 h) h
set_option maxRecDepth 100000 in
set_option maxHeartbeats 400000 in
theorem cfX4_filledShelves {l : Launch} {G : GG} (a0 : Nat → Nat) {S0 : XT} {out : Int32} (h : fX4_filledShelves S0 = some out) : Con l G 1 yX4_filledShelves cX4_filledShelves 3 (some .int) [.ref (a0 0)] (wdX G a0 S0) (some (.int out)) (wdX G a0 S0) := by
  refine Con_of (by decide +kernel) (Nat.le_of_ble_eq_true rfl) (fun E hl hG hn C => ?_)
  subst hl
  subst hG
  have C : Ctx E cX4_filledShelves RX4 1 (some .int) := C
  show V E _ _ 0 [(0, .ref (a0 0))] []
  unfold fX4_filledShelves at h
  refine V_pb C hn [(.iconst 0, 1), (.istore_n 1, 1), (.iconst 0, 1), (.istore_n 2, 1)] (pc' := 4) (ls' := [(0, .ref (a0 0)), (1, .int (0 : Int32)), (2, .int (0 : Int32))]) (st' := []) (decB_ok (by decide +kernel)) rfl rfl ?_
  refine V_sub (ls' := [(0, .ref (a0 0)), (1, .int (0 : Int32)), (2, .int (0 : Int32))]) rfl ?_
  exact cfX4_filledShelves_L4 C hn FU _ _ h
set_option maxRecDepth 100000 in
set_option maxHeartbeats 400000 in
theorem cfX4_refused {l : Launch} {G : GG} (a0 : Nat → Nat) {p1 : Int32} {S0 : XT} {out : Int32} (h : fX4_refused p1 S0 = some out) : Con l G 0 yX4_refused cX4_refused 3 (some .int) [.ref (a0 0), .int p1] (wdX G a0 S0) (some (.int out)) (wdX G a0 S0) := by
  refine Con_of (by decide +kernel) (Nat.le_of_ble_eq_true rfl) (fun E hl hG hn C => ?_)
  subst hl
  subst hG
  have C : Ctx E cX4_refused RX4 0 (some .int) := C
  show V E _ _ 0 [(0, .ref (a0 0)), (1, .int p1)] []
  unfold fX4_refused at h
  refine V_pb C hn [(.iload_n 1, 1), (.bipush 12, 2), (.isub, 1), (.istore_n 2, 1), (.iload_n 1, 1), (.bipush 12, 2)] (pc' := 8) (ls' := [(0, .ref (a0 0)), (1, .int p1), (2, .int (p1 - (12 : Int32)))]) (st' := [.int (12 : Int32), .int p1]) (decB_ok (by decide +kernel)) rfl rfl ?_
  refine V_ic_lt C (off := 17) (tgt := 25) (by decide +kernel) (by decide) h (fun _ h => ?_) (fun _ h => ?_)
  · refine V_pb C hn [(.iconst (-1), 1)] (pc' := 26) (ls' := [(0, .ref (a0 0)), (1, .int p1), (2, .int (p1 - (12 : Int32)))]) (st' := [.int (cI (-1))]) (decB_ok (by decide +kernel)) rfl rfl ?_
    have h := Option.some.inj h
    subst h
    exact V_iret C (by decide +kernel) rfl
  · refine V_pb C hn [(.iload_n 2, 1), (.iconst 5, 1)] (pc' := 13) (ls' := [(0, .ref (a0 0)), (1, .int p1), (2, .int (p1 - (12 : Int32)))]) (st' := [.int (5 : Int32), .int (p1 - (12 : Int32))]) (decB_ok (by decide +kernel)) rfl rfl ?_
    refine V_ic_ge C (off := 12) (tgt := 25) (by decide +kernel) (by decide) h (fun _ h => ?_) (fun _ h => ?_)
    · refine V_pb C hn [(.iconst (-1), 1)] (pc' := 26) (ls' := [(0, .ref (a0 0)), (1, .int p1), (2, .int (p1 - (12 : Int32)))]) (st' := [.int (cI (-1))]) (decB_ok (by decide +kernel)) rfl rfl ?_
      have h := Option.some.inj h
      subst h
      exact V_iret C (by decide +kernel) rfl
    · refine V_pb C hn [(.aload_n 0, 1)] (pc' := 17) (ls' := [(0, .ref (a0 0)), (1, .int p1), (2, .int (p1 - (12 : Int32)))]) (st' := [.ref (a0 0)]) (decB_ok (by decide +kernel)) rfl rfl ?_
      refine V_get C (v := .ref (a0 1)) (by decide +kernel) 0 7 fk_RX4_42 rfl rfl ?_
      refine V_pb C hn [(.iload_n 2, 1)] (pc' := 21) (ls' := [(0, .ref (a0 0)), (1, .int p1), (2, .int (p1 - (12 : Int32)))]) (st' := [.int (p1 - (12 : Int32)), .ref (a0 1)]) (decB_ok (by decide +kernel)) rfl rfl ?_
      refine V_iald C (f := (x_refusals S0)) (by decide +kernel) 1 rfl h (fun h => ?_)
      refine V_goto C (off := 4) (tgt := 26) (by decide +kernel) (by decide) ?_
      have h := Option.some.inj h
      subst h
      exact V_iret C (by decide +kernel) rfl
set_option maxRecDepth 100000 in
set_option maxHeartbeats 400000 in
theorem cfX4_status_j141 {E : VE} (C : Ctx E cX4_status RX4 2 (some .int)) (hn : E.nL = 2) {a0 : Nat → Nat} {p1 : Int32} {S0 : XT} {out : Int32} (h : fX4_status_j141 p1 S0 = some out) : V E (QR E (some (.int out)) (wdX E.G a0 S0)) (wdX E.G a0 S0) 141 [(0, .ref (a0 0)), (1, .int p1)] [] := by
  unfold fX4_status_j141 at h
  refine V_pb C hn [(.aload_n 0, 1), (.iload_n 1, 1)] (pc' := 143) (ls' := [(0, .ref (a0 0)), (1, .int p1)]) (st' := [.int p1, .ref (a0 0)]) (decB_ok (by decide +kernel)) rfl rfl ?_
  obtain ⟨q1, h2, h⟩ := bnd h
  refine V_callV0 C (As := [.int p1]) (rest := []) (by decide +kernel) ok_yX4_refused mk_RX4_315 (cfX4_refused (l := E.l) (G := E.G) a0 h2) (q0 := 0) rfl rfl rfl rfl rfl rfl (Nat.le_of_ble_eq_true rfl) (Nat.le_of_ble_eq_true rfl) (Nat.le_of_ble_eq_true rfl) ?_
  show V E _ (wdX E.G a0 S0) 146 [(0, .ref (a0 0)), (1, .int p1)] [.int q1]
  have h := Option.some.inj h
  subst h
  exact V_iret C (by decide +kernel) rfl
set_option maxRecDepth 100000 in
set_option maxHeartbeats 400000 in
theorem cfX4_status_j117 {E : VE} (C : Ctx E cX4_status RX4 2 (some .int)) (hn : E.nL = 2) {a0 : Nat → Nat} {p1 : Int32} {S0 : XT} {out : Int32} (h : fX4_status_j117 p1 S0 = some out) : V E (QR E (some (.int out)) (wdX E.G a0 S0)) (wdX E.G a0 S0) 117 [(0, .ref (a0 0)), (1, .int p1)] [] := by
  unfold fX4_status_j117 at h
  refine V_pb C hn [(.iload_n 1, 1), (.iconst 3, 1)] (pc' := 119) (ls' := [(0, .ref (a0 0)), (1, .int p1)]) (st' := [.int (3 : Int32), .int p1]) (decB_ok (by decide +kernel)) rfl rfl ?_
  refine V_ic_lt C (off := 22) (tgt := 141) (by decide +kernel) (by decide) h (fun _ h => ?_) (fun _ h => ?_)
  · refine V_sub (ls' := [(0, .ref (a0 0)), (1, .int p1)]) rfl ?_
    exact cfX4_status_j141 C hn h
  · refine V_pb C hn [(.iload_n 1, 1), (.bipush 7, 2)] (pc' := 125) (ls' := [(0, .ref (a0 0)), (1, .int p1)]) (st' := [.int (7 : Int32), .int p1]) (decB_ok (by decide +kernel)) rfl rfl ?_
    refine V_ic_gt C (off := 16) (tgt := 141) (by decide +kernel) (by decide) h (fun _ h => ?_) (fun _ h => ?_)
    · refine V_sub (ls' := [(0, .ref (a0 0)), (1, .int p1)]) rfl ?_
      exact cfX4_status_j141 C hn h
    · refine V_pb C hn [(.aload_n 0, 1)] (pc' := 129) (ls' := [(0, .ref (a0 0)), (1, .int p1)]) (st' := [.ref (a0 0)]) (decB_ok (by decide +kernel)) rfl rfl ?_
      refine V_get C (v := .ref (a0 4)) (by decide +kernel) 0 0 fk_RX4_12 rfl rfl ?_
      refine V_pb C hn [(.iload_n 1, 1), (.iconst 3, 1), (.isub, 1)] (pc' := 135) (ls' := [(0, .ref (a0 0)), (1, .int p1)]) (st' := [.int (p1 - (3 : Int32)), .ref (a0 4)]) (decB_ok (by decide +kernel)) rfl rfl ?_
      obtain ⟨q3, h4, h⟩ := bnd h
      refine V_callVp C (As := [.int (p1 - (3 : Int32))]) (rest := []) (by decide +kernel) ok_yX1_told mk_RX4_159 (cfX1_told (l := E.l) (G := E.G) (fun j => a0 (4 + j)) h4) [4, 5, 6, 7] (q0 := 0) rfl rfl rfl rfl rfl rfl rfl (Nat.le_of_ble_eq_true rfl) (Nat.le_of_ble_eq_true rfl) (Nat.le_of_ble_eq_true rfl) ?_
      show V E _ (wdX E.G a0 S0) 138 [(0, .ref (a0 0)), (1, .int p1)] [.int q3]
      refine V_goto C (off := 8) (tgt := 146) (by decide +kernel) (by decide) ?_
      have h := Option.some.inj h
      subst h
      exact V_iret C (by decide +kernel) rfl
set_option maxRecDepth 100000 in
set_option maxHeartbeats 400000 in
theorem cfX4_status {l : Launch} {G : GG} (a0 : Nat → Nat) {p1 : Int32} {S0 : XT} {out : Int32} (h : fX4_status p1 S0 = some out) : Con l G 2 yX4_status cX4_status 2 (some .int) [.ref (a0 0), .int p1] (wdX G a0 S0) (some (.int out)) (wdX G a0 S0) := by
  refine Con_of (by decide +kernel) (Nat.le_of_ble_eq_true rfl) (fun E hl hG hn C => ?_)
  subst hl
  subst hG
  have C : Ctx E cX4_status RX4 2 (some .int) := C
  show V E _ _ 0 [(0, .ref (a0 0)), (1, .int p1)] []
  unfold fX4_status at h
  refine V_pb C hn [(.iload_n 1, 1)] (pc' := 1) (ls' := [(0, .ref (a0 0)), (1, .int p1)]) (st' := [.int p1]) (decB_ok (by decide +kernel)) rfl rfl ?_
  refine V_sw (0) ?_
  refine Sw_at C (dflt := 116) (lo := 0) (hi := 11) (offs := #[63, 71, 79, 116, 116, 116, 116, 116, 87, 95, 103, 111]) (len := 63) (off := 63) (v := (0 : Int32)) (tgt := 64) (by decide +kernel) (by decide) (by decide) (by decide) rfl (by decide) h (fun _ h => ?_) (fun _ h => ?_)
  · refine V_pb C hn [(.aload_n 0, 1)] (pc' := 65) (ls' := [(0, .ref (a0 0)), (1, .int p1)]) (st' := [.ref (a0 0)]) (decB_ok (by decide +kernel)) rfl rfl ?_
    refine V_get C (v := .ref (a0 4)) (by decide +kernel) 0 0 fk_RX4_12 rfl rfl ?_
    refine V_get C (v := .int (h_count (x_now S0))) (by decide +kernel) 4 1 fk_RX4_146 rfl rfl ?_
    have h := Option.some.inj h
    subst h
    exact V_iret C (by decide +kernel) rfl
  refine Sw_at C (dflt := 116) (lo := 0) (hi := 11) (offs := #[63, 71, 79, 116, 116, 116, 116, 116, 87, 95, 103, 111]) (len := 63) (off := 71) (v := (1 : Int32)) (tgt := 72) (by decide +kernel) (by decide) (by decide) (by decide) rfl (by decide) h (fun _ h => ?_) (fun _ h => ?_)
  · refine V_pb C hn [(.aload_n 0, 1)] (pc' := 73) (ls' := [(0, .ref (a0 0)), (1, .int p1)]) (st' := [.ref (a0 0)]) (decB_ok (by decide +kernel)) rfl rfl ?_
    refine V_get C (v := .ref (a0 4)) (by decide +kernel) 0 0 fk_RX4_12 rfl rfl ?_
    refine V_get C (v := .int (h_side (x_now S0))) (by decide +kernel) 4 0 fk_RX4_132 rfl rfl ?_
    have h := Option.some.inj h
    subst h
    exact V_iret C (by decide +kernel) rfl
  refine Sw_at C (dflt := 116) (lo := 0) (hi := 11) (offs := #[63, 71, 79, 116, 116, 116, 116, 116, 87, 95, 103, 111]) (len := 63) (off := 79) (v := (2 : Int32)) (tgt := 80) (by decide +kernel) (by decide) (by decide) (by decide) rfl (by decide) h (fun _ h => ?_) (fun _ h => ?_)
  · refine V_pb C hn [(.aload_n 0, 1)] (pc' := 81) (ls' := [(0, .ref (a0 0)), (1, .int p1)]) (st' := [.ref (a0 0)]) (decB_ok (by decide +kernel)) rfl rfl ?_
    refine V_get C (v := .ref (a0 4)) (by decide +kernel) 0 0 fk_RX4_12 rfl rfl ?_
    refine V_get C (v := .int (h_doors (x_now S0))) (by decide +kernel) 4 5 fk_RX4_149 rfl rfl ?_
    have h := Option.some.inj h
    subst h
    exact V_iret C (by decide +kernel) rfl
  refine Sw_at C (dflt := 116) (lo := 0) (hi := 11) (offs := #[63, 71, 79, 116, 116, 116, 116, 116, 87, 95, 103, 111]) (len := 63) (off := 116) (v := (3 : Int32)) (tgt := 117) (by decide +kernel) (by decide) (by decide) (by decide) rfl (by decide) h (fun _ h => ?_) (fun _ h => ?_)
  · refine V_sub (ls' := [(0, .ref (a0 0)), (1, .int p1)]) rfl ?_
    exact cfX4_status_j117 C hn h
  refine Sw_at C (dflt := 116) (lo := 0) (hi := 11) (offs := #[63, 71, 79, 116, 116, 116, 116, 116, 87, 95, 103, 111]) (len := 63) (off := 116) (v := (4 : Int32)) (tgt := 117) (by decide +kernel) (by decide) (by decide) (by decide) rfl (by decide) h (fun _ h => ?_) (fun _ h => ?_)
  · refine V_sub (ls' := [(0, .ref (a0 0)), (1, .int p1)]) rfl ?_
    exact cfX4_status_j117 C hn h
  refine Sw_at C (dflt := 116) (lo := 0) (hi := 11) (offs := #[63, 71, 79, 116, 116, 116, 116, 116, 87, 95, 103, 111]) (len := 63) (off := 116) (v := (5 : Int32)) (tgt := 117) (by decide +kernel) (by decide) (by decide) (by decide) rfl (by decide) h (fun _ h => ?_) (fun _ h => ?_)
  · refine V_sub (ls' := [(0, .ref (a0 0)), (1, .int p1)]) rfl ?_
    exact cfX4_status_j117 C hn h
  refine Sw_at C (dflt := 116) (lo := 0) (hi := 11) (offs := #[63, 71, 79, 116, 116, 116, 116, 116, 87, 95, 103, 111]) (len := 63) (off := 116) (v := (6 : Int32)) (tgt := 117) (by decide +kernel) (by decide) (by decide) (by decide) rfl (by decide) h (fun _ h => ?_) (fun _ h => ?_)
  · refine V_sub (ls' := [(0, .ref (a0 0)), (1, .int p1)]) rfl ?_
    exact cfX4_status_j117 C hn h
  refine Sw_at C (dflt := 116) (lo := 0) (hi := 11) (offs := #[63, 71, 79, 116, 116, 116, 116, 116, 87, 95, 103, 111]) (len := 63) (off := 116) (v := (7 : Int32)) (tgt := 117) (by decide +kernel) (by decide) (by decide) (by decide) rfl (by decide) h (fun _ h => ?_) (fun _ h => ?_)
  · refine V_sub (ls' := [(0, .ref (a0 0)), (1, .int p1)]) rfl ?_
    exact cfX4_status_j117 C hn h
  refine Sw_at C (dflt := 116) (lo := 0) (hi := 11) (offs := #[63, 71, 79, 116, 116, 116, 116, 116, 87, 95, 103, 111]) (len := 63) (off := 87) (v := (8 : Int32)) (tgt := 88) (by decide +kernel) (by decide) (by decide) (by decide) rfl (by decide) h (fun _ h => ?_) (fun _ h => ?_)
  · refine V_pb C hn [(.aload_n 0, 1)] (pc' := 89) (ls' := [(0, .ref (a0 0)), (1, .int p1)]) (st' := [.ref (a0 0)]) (decB_ok (by decide +kernel)) rfl rfl ?_
    refine V_get C (v := .ref (a0 4)) (by decide +kernel) 0 0 fk_RX4_12 rfl rfl ?_
    obtain ⟨q5, h6, h⟩ := bnd h
    refine V_callVp C (As := []) (rest := []) (by decide +kernel) ok_yX1_weightInAll mk_RX4_309 (cfX1_weightInAll (l := E.l) (G := E.G) (fun j => a0 (4 + j)) h6) [4, 5, 6, 7] (q0 := 0) rfl rfl rfl rfl rfl rfl rfl (Nat.le_of_ble_eq_true rfl) (Nat.le_of_ble_eq_true rfl) (Nat.le_of_ble_eq_true rfl) ?_
    show V E _ (wdX E.G a0 S0) 95 [(0, .ref (a0 0)), (1, .int p1)] [.int q5]
    have h := Option.some.inj h
    subst h
    exact V_iret C (by decide +kernel) rfl
  refine Sw_at C (dflt := 116) (lo := 0) (hi := 11) (offs := #[63, 71, 79, 116, 116, 116, 116, 116, 87, 95, 103, 111]) (len := 63) (off := 95) (v := (9 : Int32)) (tgt := 96) (by decide +kernel) (by decide) (by decide) (by decide) rfl (by decide) h (fun _ h => ?_) (fun _ h => ?_)
  · refine V_pb C hn [(.aload_n 0, 1)] (pc' := 97) (ls' := [(0, .ref (a0 0)), (1, .int p1)]) (st' := [.ref (a0 0)]) (decB_ok (by decide +kernel)) rfl rfl ?_
    refine V_get C (v := .ref (a0 16)) (by decide +kernel) 0 5 fk_RX4_31 rfl rfl ?_
    refine V_get C (v := .int (t_size (x_tape S0))) (by decide +kernel) 16 1 fk_RX4_165 rfl rfl ?_
    have h := Option.some.inj h
    subst h
    exact V_iret C (by decide +kernel) rfl
  refine Sw_at C (dflt := 116) (lo := 0) (hi := 11) (offs := #[63, 71, 79, 116, 116, 116, 116, 116, 87, 95, 103, 111]) (len := 63) (off := 103) (v := (10 : Int32)) (tgt := 104) (by decide +kernel) (by decide) (by decide) (by decide) rfl (by decide) h (fun _ h => ?_) (fun _ h => ?_)
  · refine V_pb C hn [(.aload_n 0, 1)] (pc' := 105) (ls' := [(0, .ref (a0 0)), (1, .int p1)]) (st' := [.ref (a0 0)]) (decB_ok (by decide +kernel)) rfl rfl ?_
    refine V_get C (v := .ref (a0 4)) (by decide +kernel) 0 0 fk_RX4_12 rfl rfl ?_
    refine V_get C (v := .int (h_seed (x_now S0))) (by decide +kernel) 4 11 fk_RX4_302 rfl rfl ?_
    have h := Option.some.inj h
    subst h
    exact V_iret C (by decide +kernel) rfl
  refine Sw_at C (dflt := 116) (lo := 0) (hi := 11) (offs := #[63, 71, 79, 116, 116, 116, 116, 116, 87, 95, 103, 111]) (len := 63) (off := 111) (v := (11 : Int32)) (tgt := 112) (by decide +kernel) (by decide) (by decide) (by decide) rfl (by decide) h (fun _ h => ?_) (fun _ h => ?_)
  · refine V_pb C hn [(.aload_n 0, 1)] (pc' := 113) (ls' := [(0, .ref (a0 0)), (1, .int p1)]) (st' := [.ref (a0 0)]) (decB_ok (by decide +kernel)) rfl rfl ?_
    obtain ⟨q7, h8, h⟩ := bnd h
    refine V_callV0 C (As := []) (rest := []) (by decide +kernel) ok_yX4_filledShelves mk_RX4_312 (cfX4_filledShelves (l := E.l) (G := E.G) a0 h8) (q0 := 0) rfl rfl rfl rfl rfl rfl (Nat.le_of_ble_eq_true rfl) (Nat.le_of_ble_eq_true rfl) (Nat.le_of_ble_eq_true rfl) ?_
    show V E _ (wdX E.G a0 S0) 116 [(0, .ref (a0 0)), (1, .int p1)] [.int q7]
    have h := Option.some.inj h
    subst h
    exact V_iret C (by decide +kernel) rfl
  refine Sw_end C (dflt := 116) (lo := 0) (hi := 11) (offs := #[63, 71, 79, 116, 116, 116, 116, 116, 87, 95, 103, 111]) (len := 63) (tgt := 117) (by decide +kernel) (by decide) (by decide) ?_
  refine V_sub (ls' := [(0, .ref (a0 0)), (1, .int p1)]) rfl ?_
  exact cfX4_status_j117 C hn h
