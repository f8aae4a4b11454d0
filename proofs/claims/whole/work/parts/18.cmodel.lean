set_option maxRecDepth 100000 in
set_option maxHeartbeats 400000 in
theorem cfX5_votesBehind {l : Launch} {G : GG} (a0 : Nat → Nat) {p1 : Int32} {S0 : MT} {out : Int32 × MT} (h : fX5_votesBehind p1 S0 = some out) : Con l G 9 yX5_votesBehind cX5_votesBehind 3 (some .int) [.ref (a0 0), .int p1] (wdM G a0 S0) (some (.int out.1)) (wdM G a0 out.2) := by
  refine Con_of (by decide +kernel) (Nat.le_of_ble_eq_true rfl) (fun E hl hG hn C => ?_)
  subst hl
  subst hG
  have C : Ctx E cX5_votesBehind RX5 9 (some .int) := C
  show V E _ _ 0 [(0, .ref (a0 0)), (1, .int p1)] []
  unfold fX5_votesBehind at h
  refine V_pb C hn [(.aload_n 0, 1), (.iload_n 1, 1)] (pc' := 2) (ls' := [(0, .ref (a0 0)), (1, .int p1)]) (st' := [.int p1, .ref (a0 0)]) (decB_ok (by decide +kernel)) rfl rfl ?_
  obtain ⟨q1, h2, h⟩ := bnd h
  refine V_callV0 C (As := [.int p1]) (rest := []) (by decide +kernel) ok_yX5_goesOn mk_RX5_228 (cfX5_goesOn (l := E.l) (G := E.G) a0 h2) (q0 := 0) rfl rfl rfl rfl rfl rfl (Nat.le_of_ble_eq_true rfl) (Nat.le_of_ble_eq_true rfl) (Nat.le_of_ble_eq_true rfl) ?_
  show V E _ (wdM E.G a0 q1) 5 [(0, .ref (a0 0)), (1, .int p1)] []
  refine V_pb C hn [(.aload_n 0, 1)] (pc' := 6) (ls' := [(0, .ref (a0 0)), (1, .int p1)]) (st' := [.ref (a0 0)]) (decB_ok (by decide +kernel)) rfl rfl ?_
  obtain ⟨q3, h4, h⟩ := bnd h
  refine V_callV0 C (As := []) (rest := []) (by decide +kernel) ok_yX5_votesNow mk_RX5_213 (cfX5_votesNow (l := E.l) (G := E.G) a0 h4) (q0 := 0) rfl rfl rfl rfl rfl rfl (Nat.le_of_ble_eq_true rfl) (Nat.le_of_ble_eq_true rfl) (Nat.le_of_ble_eq_true rfl) ?_
  show V E _ (wdM E.G a0 q1) 9 [(0, .ref (a0 0)), (1, .int p1)] [.int q3]
  refine V_pb C hn [(.istore_n 2, 1), (.aload_n 0, 1)] (pc' := 11) (ls' := [(0, .ref (a0 0)), (1, .int p1), (2, .int q3)]) (st' := [.ref (a0 0)]) (decB_ok (by decide +kernel)) rfl rfl ?_
  obtain ⟨q5, h6, h⟩ := bnd h
  refine V_callV0 C (As := []) (rest := []) (by decide +kernel) ok_yX5_ends mk_RX5_232 (cfX5_ends (l := E.l) (G := E.G) a0 h6) (q0 := 0) rfl rfl rfl rfl rfl rfl (Nat.le_of_ble_eq_true rfl) (Nat.le_of_ble_eq_true rfl) (Nat.le_of_ble_eq_true rfl) ?_
  show V E _ (wdM E.G a0 q5) 14 [(0, .ref (a0 0)), (1, .int p1), (2, .int q3)] []
  refine V_pb C hn [(.iload_n 2, 1)] (pc' := 15) (ls' := [(0, .ref (a0 0)), (1, .int p1), (2, .int q3)]) (st' := [.int q3]) (decB_ok (by decide +kernel)) rfl rfl ?_
  have h := Option.some.inj h
  subst h
  exact V_iret C (by decide +kernel) rfl
set_option maxRecDepth 100000 in
set_option maxHeartbeats 400000 in
theorem cfX5_when_j83 {E : VE} (C : Ctx E cX5_when RX5 10 (some .int)) (hn : E.nL = 7) {a0 : Nat → Nat} {p1 : Int32} {v2 : Int32} {v3 : Int32} {v4 : Int32} {S0 : MT} {out : Int32 × MT} (h : fX5_when_j83 p1 v2 v3 v4 S0 = some out) : V E (QR E (some (.int out.1)) (wdM E.G a0 out.2)) (wdM E.G a0 S0) 83 [(1, .int p1), (2, .int v2), (3, .int v3), (4, .int v4)] [] := by
  unfold fX5_when_j83 at h
  refine V_pb C hn [(.iload_n 1, 1)] (pc' := 84) (ls' := [(1, .int p1), (2, .int v2), (3, .int v3), (4, .int v4)]) (st' := [.int p1]) (decB_ok (by decide +kernel)) rfl rfl ?_
  refine V_if_ne C (off := 7) (tgt := 91) (by decide +kernel) (by decide) h (fun _ h => ?_) (fun _ h => ?_)
  · refine V_pb C hn [(.iload_n 2, 1)] (pc' := 88) (ls' := [(1, .int p1), (2, .int v2), (3, .int v3), (4, .int v4)]) (st' := [.int v2]) (decB_ok (by decide +kernel)) rfl rfl ?_
    refine V_goto C (off := 14) (tgt := 102) (by decide +kernel) (by decide) ?_
    have h := Option.some.inj h
    subst h
    exact V_iret C (by decide +kernel) rfl
  · refine V_pb C hn [(.iload_n 1, 1), (.iconst 1, 1)] (pc' := 93) (ls' := [(1, .int p1), (2, .int v2), (3, .int v3), (4, .int v4)]) (st' := [.int (1 : Int32), .int p1]) (decB_ok (by decide +kernel)) rfl rfl ?_
    refine V_ic_ne C (off := 7) (tgt := 100) (by decide +kernel) (by decide) h (fun _ h => ?_) (fun _ h => ?_)
    · refine V_pb C hn [(.iload_n 3, 1)] (pc' := 97) (ls' := [(1, .int p1), (2, .int v2), (3, .int v3), (4, .int v4)]) (st' := [.int v3]) (decB_ok (by decide +kernel)) rfl rfl ?_
      refine V_goto C (off := 5) (tgt := 102) (by decide +kernel) (by decide) ?_
      have h := Option.some.inj h
      subst h
      exact V_iret C (by decide +kernel) rfl
    · refine V_pb C hn [(.iload 4, 2)] (pc' := 102) (ls' := [(1, .int p1), (2, .int v2), (3, .int v3), (4, .int v4)]) (st' := [.int v4]) (decB_ok (by decide +kernel)) rfl rfl ?_
      have h := Option.some.inj h
      subst h
      exact V_iret C (by decide +kernel) rfl
set_option maxRecDepth 100000 in
set_option maxHeartbeats 400000 in
theorem cfX5_when_j77 {E : VE} (C : Ctx E cX5_when RX5 10 (some .int)) (hn : E.nL = 7) {a0 : Nat → Nat} {p1 : Int32} {v2 : Int32} {v3 : Int32} {v4 : Int32} {v5 : Int32} {S0 : MT} {out : Int32 × MT} {k26 : Int32 → Int32 → Int32 → Int32 → MT → Option (Int32 × MT)} (hk26 : ∀ (v2 : Int32) (v3 : Int32) (v4 : Int32) (v5 : Int32) (S0 : MT), k26 v2 v3 v4 v5 S0 = some out → V E (QR E (some (.int out.1)) (wdM E.G a0 out.2)) (wdM E.G a0 S0) 26 [(0, .ref (a0 0)), (1, .int p1), (2, .int v2), (3, .int v3), (4, .int v4), (5, .int v5)] []) (h : fX5_when_j77 k26 p1 v2 v3 v4 v5 S0 = some out) : V E (QR E (some (.int out.1)) (wdM E.G a0 out.2)) (wdM E.G a0 S0) 77 [(0, .ref (a0 0)), (1, .int p1), (2, .int v2), (3, .int v3), (4, .int v4), (5, .int v5)] [] := by
  unfold fX5_when_j77 at h
  refine V_pb C hn [(.iinc 5 1, 3)] (pc' := 80) (ls' := [(0, .ref (a0 0)), (1, .int p1), (2, .int v2), (3, .int v3), (4, .int v4), (5, .int (v5 + (1 : Int32)))]) (st' := []) (decB_ok (by decide +kernel)) rfl rfl ?_
  refine V_goto C (off := -54) (tgt := 26) (by decide +kernel) (by decide) ?_
  refine V_sub (ls' := [(0, .ref (a0 0)), (1, .int p1), (2, .int v2), (3, .int v3), (4, .int v4), (5, .int (v5 + (1 : Int32)))]) rfl ?_
  exact hk26 _ _ _ _ _ h
set_option maxRecDepth 100000 in
set_option maxHeartbeats 400000 in
theorem cfX5_when_j60 {E : VE} (C : Ctx E cX5_when RX5 10 (some .int)) (hn : E.nL = 7) {a0 : Nat → Nat} {p1 : Int32} {v2 : Int32} {v3 : Int32} {v4 : Int32} {v5 : Int32} {v6 : Int32} {S0 : MT} {out : Int32 × MT} {k26 : Int32 → Int32 → Int32 → Int32 → MT → Option (Int32 × MT)} (hk26 : ∀ (v2 : Int32) (v3 : Int32) (v4 : Int32) (v5 : Int32) (S0 : MT), k26 v2 v3 v4 v5 S0 = some out → V E (QR E (some (.int out.1)) (wdM E.G a0 out.2)) (wdM E.G a0 S0) 26 [(0, .ref (a0 0)), (1, .int p1), (2, .int v2), (3, .int v3), (4, .int v4), (5, .int v5)] []) (h : fX5_when_j60 k26 p1 v2 v3 v4 v5 v6 S0 = some out) : V E (QR E (some (.int out.1)) (wdM E.G a0 out.2)) (wdM E.G a0 S0) 60 [(0, .ref (a0 0)), (1, .int p1), (2, .int v2), (3, .int v3), (4, .int v4), (5, .int v5), (6, .int v6)] [] := by
  unfold fX5_when_j60 at h
  refine V_pb C hn [(.iload 6, 2), (.iload 4, 2)] (pc' := 64) (ls' := [(0, .ref (a0 0)), (1, .int p1), (2, .int v2), (3, .int v3), (4, .int v4), (5, .int v5), (6, .int v6)]) (st' := [.int v4, .int v6]) (decB_ok (by decide +kernel)) rfl rfl ?_
  refine V_ic_gt C (off := 6) (tgt := 70) (by decide +kernel) (by decide) h (fun _ h => ?_) (fun _ h => ?_)
  · refine V_pb C hn [(.iload 6, 2), (.istore 4, 2), (.iload 5, 2), (.istore_n 3, 1)] (pc' := 77) (ls' := [(0, .ref (a0 0)), (1, .int p1), (2, .int v2), (3, .int v5), (4, .int v6), (5, .int v5), (6, .int v6)]) (st' := []) (decB_ok (by decide +kernel)) rfl rfl ?_
    refine V_sub (ls' := [(0, .ref (a0 0)), (1, .int p1), (2, .int v2), (3, .int v5), (4, .int v6), (5, .int v5)]) rfl ?_
    exact cfX5_when_j77 C hn (k26 := k26) (hk26) h
  · refine V_goto C (off := 10) (tgt := 77) (by decide +kernel) (by decide) ?_
    refine V_sub (ls' := [(0, .ref (a0 0)), (1, .int p1), (2, .int v2), (3, .int v3), (4, .int v4), (5, .int v5)]) rfl ?_
    exact cfX5_when_j77 C hn (k26 := k26) (hk26) h
set_option maxRecDepth 100000 in
set_option maxHeartbeats 400000 in
theorem cfX5_when_L26 {E : VE} (C : Ctx E cX5_when RX5 10 (some .int)) (hn : E.nL = 7) {a0 : Nat → Nat} {p1 : Int32} {out : Int32 × MT} : ∀ (n : Nat) (v2 : Int32) (v3 : Int32) (v4 : Int32) (v5 : Int32) (S0 : MT), fX5_when_L26 p1 n v2 v3 v4 v5 S0 = some out → V E (QR E (some (.int out.1)) (wdM E.G a0 out.2)) (wdM E.G a0 S0) 26 [(0, .ref (a0 0)), (1, .int p1), (2, .int v2), (3, .int v3), (4, .int v4), (5, .int v5)] [] := by
  intro n
  induction n with
  | zero =>
    intro v2 v3 v4 v5 S0 h
    cases h
  | succ n ih =>
    intro v2 v3 v4 v5 S0 h
    unfold fX5_when_L26 at h
    refine V_pb C hn [(.iload 5, 2), (.bipush 24, 2)] (pc' := 30) (ls' := [(0, .ref (a0 0)), (1, .int p1), (2, .int v2), (3, .int v3), (4, .int v4), (5, .int v5)]) (st' := [.int (24 : Int32), .int v5]) (decB_ok (by decide +kernel)) rfl rfl ?_
    refine V_ic_gt C (off := 53) (tgt := 83) (by decide +kernel) (by decide) h (fun _ h => ?_) (fun _ h => ?_)
    · refine V_sub (ls' := [(1, .int p1), (2, .int v2), (3, .int v3), (4, .int v4)]) rfl ?_
      exact cfX5_when_j83 C hn h
    · refine V_pb C hn [(.aload_n 0, 1), (.iload 5, 2)] (pc' := 36) (ls' := [(0, .ref (a0 0)), (1, .int p1), (2, .int v2), (3, .int v3), (4, .int v4), (5, .int v5)]) (st' := [.int v5, .ref (a0 0)]) (decB_ok (by decide +kernel)) rfl rfl ?_
      obtain ⟨q5, h6, h⟩ := bnd h
      refine V_callV0 C (As := [.int v5]) (rest := []) (by decide +kernel) ok_yX5_votesBehind mk_RX5_235 (cfX5_votesBehind (l := E.l) (G := E.G) a0 h6) (q0 := 0) rfl rfl rfl rfl rfl rfl (Nat.le_of_ble_eq_true rfl) (Nat.le_of_ble_eq_true rfl) (Nat.le_of_ble_eq_true rfl) ?_
      show V E _ (wdM E.G a0 q5.2) 39 [(0, .ref (a0 0)), (1, .int p1), (2, .int v2), (3, .int v3), (4, .int v4), (5, .int v5)] [.int q5.1]
      refine V_pb C hn [(.istore 6, 2), (.iload_n 2, 1), (.iconst (-1), 1)] (pc' := 43) (ls' := [(0, .ref (a0 0)), (1, .int p1), (2, .int v2), (3, .int v3), (4, .int v4), (5, .int v5), (6, .int q5.1)]) (st' := [.int (cI (-1)), .int v2]) (decB_ok (by decide +kernel)) rfl rfl ?_
      refine V_ic_ne C (off := 17) (tgt := 60) (by decide +kernel) (by decide) h (fun _ h => ?_) (fun _ h => ?_)
      · refine V_pb C hn [(.iconst 2, 1), (.iload 6, 2), (.imul, 1), (.aload_n 0, 1)] (pc' := 51) (ls' := [(0, .ref (a0 0)), (1, .int p1), (2, .int v2), (3, .int v3), (4, .int v4), (5, .int v5), (6, .int q5.1)]) (st' := [.ref (a0 0), .int ((2 : Int32) * q5.1)]) (decB_ok (by decide +kernel)) rfl rfl ?_
        obtain ⟨q7, h8, h⟩ := bnd h
        refine V_callV0 C (As := []) (rest := [.int ((2 : Int32) * q5.1)]) (by decide +kernel) ok_yX5_allWeight mk_RX5_216 (cfX5_allWeight (l := E.l) (G := E.G) a0 h8) (q0 := 0) rfl rfl rfl rfl rfl rfl (Nat.le_of_ble_eq_true rfl) (Nat.le_of_ble_eq_true rfl) (Nat.le_of_ble_eq_true rfl) ?_
        show V E _ (wdM E.G a0 q5.2) 54 [(0, .ref (a0 0)), (1, .int p1), (2, .int v2), (3, .int v3), (4, .int v4), (5, .int v5), (6, .int q5.1)] [.int q7, .int ((2 : Int32) * q5.1)]
        refine V_ic_le C (off := 6) (tgt := 60) (by decide +kernel) (by decide) h (fun _ h => ?_) (fun _ h => ?_)
        · refine V_sub (ls' := [(0, .ref (a0 0)), (1, .int p1), (2, .int v2), (3, .int v3), (4, .int v4), (5, .int v5), (6, .int q5.1)]) rfl ?_
          exact cfX5_when_j60 C hn (k26 := (fun v2 v3 v4 v5 S0 => fX5_when_L26 p1 n v2 v3 v4 v5 S0)) (fun v2 v3 v4 v5 S0 h => ih v2 v3 v4 v5 S0 h) h
        · refine V_pb C hn [(.iload 5, 2), (.istore_n 2, 1)] (pc' := 60) (ls' := [(0, .ref (a0 0)), (1, .int p1), (2, .int v5), (3, .int v3), (4, .int v4), (5, .int v5), (6, .int q5.1)]) (st' := []) (decB_ok (by decide +kernel)) rfl rfl ?_
          refine V_sub (ls' := [(0, .ref (a0 0)), (1, .int p1), (2, .int v5), (3, .int v3), (4, .int v4), (5, .int v5), (6, .int q5.1)]) rfl ?_
          exact cfX5_when_j60 C hn (k26 := (fun v2 v3 v4 v5 S0 => fX5_when_L26 p1 n v2 v3 v4 v5 S0)) (fun v2 v3 v4 v5 S0 h => ih v2 v3 v4 v5 S0 h) h
      · refine V_sub (ls' := [(0, .ref (a0 0)), (1, .int p1), (2, .int v2), (3, .int v3), (4, .int v4), (5, .int v5), (6, .int q5.1)]) rfl ?_
        exact cfX5_when_j60 C hn (k26 := (fun v2 v3 v4 v5 S0 => fX5_when_L26 p1 n v2 v3 v4 v5 S0)) (fun v2 v3 v4 v5 S0 h => ih v2 v3 v4 v5 S0 h) h
set_option maxRecDepth 100000 in
set_option maxHeartbeats 400000 in
theorem cfX5_when {l : Launch} {G : GG} (a0 : Nat → Nat) {p1 : Int32} {S0 : MT} {out : Int32 × MT} (h : fX5_when p1 S0 = some out) : Con l G 10 yX5_when cX5_when 7 (some .int) [.ref (a0 0), .int p1] (wdM G a0 S0) (some (.int out.1)) (wdM G a0 out.2) := by
  refine Con_of (by decide +kernel) (Nat.le_of_ble_eq_true rfl) (fun E hl hG hn C => ?_)
  subst hl
  subst hG
  have C : Ctx E cX5_when RX5 10 (some .int) := C
  show V E _ _ 0 [(0, .ref (a0 0)), (1, .int p1)] []
  unfold fX5_when at h
  refine V_pb C hn [(.iload_n 1, 1), (.iconst 0, 1), (.iconst 2, 1)] (pc' := 3) (ls' := [(0, .ref (a0 0)), (1, .int p1)]) (st' := [.int (2 : Int32), .int (0 : Int32), .int p1]) (decB_ok (by decide +kernel)) rfl rfl ?_
  obtain ⟨q1, h2, h⟩ := bnd h
  refine V_callSp C (As := [.int p1, .int (0 : Int32), .int (2 : Int32)]) (rest := []) (by decide +kernel) ok_yX5_within mk_RX5_63 (cfX5_within (l := E.l) (G := E.G) h2) [] rfl rfl rfl rfl (Nat.le_of_ble_eq_true rfl) (Nat.le_of_ble_eq_true rfl) (Nat.le_of_ble_eq_true rfl) ?_
  show V E _ (wdM E.G a0 S0) 6 [(0, .ref (a0 0)), (1, .int p1)] [.int q1]
  refine V_if_ne C (off := 10) (tgt := 16) (by decide +kernel) (by decide) h (fun _ h => ?_) (fun _ h => ?_)
  · refine V_pb C hn [(.aload_n 0, 1), (.bipush (-2), 2)] (pc' := 12) (ls' := [(0, .ref (a0 0)), (1, .int p1)]) (st' := [.int (cI (-2)), .ref (a0 0)]) (decB_ok (by decide +kernel)) rfl rfl ?_
    obtain ⟨q3, h4, h⟩ := bnd h
    refine V_callV0 C (As := [.int (cI (-2))]) (rest := []) (by decide +kernel) ok_yX5_no mk_RX5_77 (cfX5_no (l := E.l) (G := E.G) a0 h4) (q0 := 0) rfl rfl rfl rfl rfl rfl (Nat.le_of_ble_eq_true rfl) (Nat.le_of_ble_eq_true rfl) (Nat.le_of_ble_eq_true rfl) ?_
    show V E _ (wdM E.G a0 q3.2) 15 [(0, .ref (a0 0)), (1, .int p1)] [.int q3.1]
    have h := Option.some.inj h
    subst h
    exact V_iret C (by decide +kernel) rfl
  · refine V_pb C hn [(.iconst (-1), 1), (.istore_n 2, 1), (.iconst 0, 1), (.istore_n 3, 1), (.iconst (-1), 1), (.istore 4, 2), (.iconst 0, 1), (.istore 5, 2)] (pc' := 26) (ls' := [(0, .ref (a0 0)), (1, .int p1), (2, .int (cI (-1))), (3, .int (0 : Int32)), (4, .int (cI (-1))), (5, .int (0 : Int32))]) (st' := []) (decB_ok (by decide +kernel)) rfl rfl ?_
    refine V_sub (ls' := [(0, .ref (a0 0)), (1, .int p1), (2, .int (cI (-1))), (3, .int (0 : Int32)), (4, .int (cI (-1))), (5, .int (0 : Int32))]) rfl ?_
    exact cfX5_when_L26 C hn FU _ _ _ _ _ h
set_option maxRecDepth 100000 in
set_option maxHeartbeats 400000 in
theorem cfX5_settingNow {l : Launch} {G : GG} (a0 : Nat → Nat) {S0 : MT} {out : Int32} (h : fX5_settingNow S0 = some out) : Con l G 0 yX5_settingNow cX5_settingNow 1 (some .int) [.ref (a0 0)] (wdM G a0 S0) (some (.int out)) (wdM G a0 S0) := by
  refine Con_of (by decide +kernel) (Nat.le_of_ble_eq_true rfl) (fun E hl hG hn C => ?_)
  subst hl
  subst hG
  have C : Ctx E cX5_settingNow RX5 0 (some .int) := C
  show V E _ _ 0 [(0, .ref (a0 0))] []
  unfold fX5_settingNow at h
  refine V_pb C hn [(.bipush 10, 2), (.aload_n 0, 1)] (pc' := 3) (ls' := [(0, .ref (a0 0))]) (st' := [.ref (a0 0), .int (10 : Int32)]) (decB_ok (by decide +kernel)) rfl rfl ?_
  refine V_get C (v := .int (m_doors S0)) (by decide +kernel) 0 5 fk_RX5_109 rfl rfl ?_
  refine V_pb C hn [(.imul, 1), (.aload_n 0, 1)] (pc' := 8) (ls' := [(0, .ref (a0 0))]) (st' := [.ref (a0 0), .int ((10 : Int32) * (m_doors S0))]) (decB_ok (by decide +kernel)) rfl rfl ?_
  refine V_get C (v := .ref (a0 4)) (by decide +kernel) 0 6 fk_RX5_19 rfl rfl ?_
  refine V_pb C hn [(.iconst 0, 1)] (pc' := 12) (ls' := [(0, .ref (a0 0))]) (st' := [.int (0 : Int32), .ref (a0 4), .int ((10 : Int32) * (m_doors S0))]) (decB_ok (by decide +kernel)) rfl rfl ?_
  refine V_iald C (f := (m_ways S0)) (by decide +kernel) 4 rfl h (fun h => ?_)
  refine V_pb C hn [(.iadd, 1)] (pc' := 14) (ls' := [(0, .ref (a0 0))]) (st' := [.int (((10 : Int32) * (m_doors S0)) + ((m_ways S0) (ix (0 : Int32))))]) (decB_ok (by decide +kernel)) rfl rfl ?_
  have h := Option.some.inj h
  subst h
  exact V_iret C (by decide +kernel) rfl
set_option maxRecDepth 100000 in
set_option maxHeartbeats 400000 in
theorem cfX5_isSetting {l : Launch} {G : GG} {p0 : Int64} {out : Int32} (h : fX5_isSetting p0 = some out) : Con l G 0 yX5_isSetting cX5_isSetting 2 (some .boolean) [.long p0] (([] : va_W)) (some (.int out)) (([] : va_W)) := by
  refine Con_of (by decide +kernel) (Nat.le_of_ble_eq_true rfl) (fun E hl hG hn C => ?_)
  subst hl
  subst hG
  have C : Ctx E cX5_isSetting RX5 0 (some .boolean) := C
  show V E _ _ 0 [(0, .long p0)] []
  unfold fX5_isSetting at h
  refine V_pb C hn [(.lload_n 0, 1), (.lconst 0, 1), (.lcmp, 1)] (pc' := 3) (ls' := [(0, .long p0)]) (st' := [.int (lg_cmp p0 (0 : Int64))]) (decB_ok (by decide +kernel)) rfl rfl ?_
  refine V_if_lt C (off := 31) (tgt := 34) (by decide +kernel) (by decide) h (fun _ h => ?_) (fun _ h => ?_)
  · refine V_pb C hn [(.iconst 0, 1)] (pc' := 35) (ls' := [(0, .long p0)]) (st' := [.int (0 : Int32)]) (decB_ok (by decide +kernel)) rfl rfl ?_
    have h := Option.some.inj h
    subst h
    exact V_iret C (v := (0 : Int32)) (by decide +kernel) nb0
  · refine V_pb C hn [(.lload_n 0, 1)] (pc' := 7) (ls' := [(0, .long p0)]) (st' := [.long p0]) (decB_ok (by decide +kernel)) rfl rfl ?_
    refine V_ldc2 C (by decide +kernel) kk_RX5_67 ?_
    refine V_ldiv C (by decide +kernel) (by decide) ?_
    refine V_ldc2 C (by decide +kernel) kk_RX5_69 ?_
    refine V_pb C hn [(.lcmp, 1)] (pc' := 15) (ls' := [(0, .long p0)]) (st' := [.int (lg_cmp (p0 / (10 : Int64)) (16 : Int64))]) (decB_ok (by decide +kernel)) rfl rfl ?_
    refine V_if_ge C (off := 19) (tgt := 34) (by decide +kernel) (by decide) h (fun _ h => ?_) (fun _ h => ?_)
    · refine V_pb C hn [(.iconst 0, 1)] (pc' := 35) (ls' := [(0, .long p0)]) (st' := [.int (0 : Int32)]) (decB_ok (by decide +kernel)) rfl rfl ?_
      have h := Option.some.inj h
      subst h
      exact V_iret C (v := (0 : Int32)) (by decide +kernel) nb0
    · refine V_pb C hn [(.lload_n 0, 1)] (pc' := 19) (ls' := [(0, .long p0)]) (st' := [.long p0]) (decB_ok (by decide +kernel)) rfl rfl ?_
      refine V_ldc2 C (by decide +kernel) kk_RX5_67 ?_
      refine V_lrem C (by decide +kernel) (by decide) ?_
      refine V_ldc2 C (by decide +kernel) kk_RX5_71 ?_
      refine V_pb C hn [(.lcmp, 1)] (pc' := 27) (ls' := [(0, .long p0)]) (st' := [.int (lg_cmp (lrm p0 (10 : Int64)) (5 : Int64))]) (decB_ok (by decide +kernel)) rfl rfl ?_
      refine V_if_ge C (off := 7) (tgt := 34) (by decide +kernel) (by decide) h (fun _ h => ?_) (fun _ h => ?_)
      · refine V_pb C hn [(.iconst 0, 1)] (pc' := 35) (ls' := [(0, .long p0)]) (st' := [.int (0 : Int32)]) (decB_ok (by decide +kernel)) rfl rfl ?_
        have h := Option.some.inj h
        subst h
        exact V_iret C (v := (0 : Int32)) (by decide +kernel) nb0
      · refine V_pb C hn [(.iconst 1, 1)] (pc' := 31) (ls' := [(0, .long p0)]) (st' := [.int (1 : Int32)]) (decB_ok (by decide +kernel)) rfl rfl ?_
        refine V_goto C (off := 4) (tgt := 35) (by decide +kernel) (by decide) ?_
        have h := Option.some.inj h
        subst h
        exact V_iret C (v := (1 : Int32)) (by decide +kernel) nb1
set_option maxRecDepth 100000 in
set_option maxHeartbeats 400000 in
theorem cfX5_unlike {l : Launch} {G : GG} {p0 : Int32} {p1 : Int32} {out : Int32} (h : fX5_unlike p0 p1 = some out) : Con l G 1 yX5_unlike cX5_unlike 2 (some .int) [.int p0, .int p1] (([] : va_W)) (some (.int out)) (([] : va_W)) := by
  refine Con_of (by decide +kernel) (Nat.le_of_ble_eq_true rfl) (fun E hl hG hn C => ?_)
  subst hl
  subst hG
  have C : Ctx E cX5_unlike RX5 1 (some .int) := C
  show V E _ _ 0 [(0, .int p0), (1, .int p1)] []
  unfold fX5_unlike at h
  refine V_pb C hn [(.iload_n 0, 1), (.bipush 10, 2)] (pc' := 3) (ls' := [(0, .int p0), (1, .int p1)]) (st' := [.int (10 : Int32), .int p0]) (decB_ok (by decide +kernel)) rfl rfl ?_
  refine V_idiv C (by decide +kernel) (by decide) ?_
  refine V_pb C hn [(.iload_n 1, 1), (.bipush 10, 2)] (pc' := 7) (ls' := [(0, .int p0), (1, .int p1)]) (st' := [.int (10 : Int32), .int p1, .int (p0 / (10 : Int32))]) (decB_ok (by decide +kernel)) rfl rfl ?_
  refine V_idiv C (by decide +kernel) (by decide) ?_
  refine V_pb C hn [(.ixor, 1)] (pc' := 9) (ls' := [(0, .int p0), (1, .int p1)]) (st' := [.int ((p0 / (10 : Int32)) ^^^ (p1 / (10 : Int32)))]) (decB_ok (by decide +kernel)) rfl rfl ?_
  obtain ⟨q1, h2, h⟩ := bnd h
  refine V_callSp C (As := [.int ((p0 / (10 : Int32)) ^^^ (p1 / (10 : Int32)))]) (rest := []) (by decide +kernel) ok_yJ6_bitCount_0f7a4 mk_RX5_250 (cfJ6_bitCount_0f7a4 (l := E.l) (G := E.G) h2) [] rfl rfl rfl rfl (Nat.le_of_ble_eq_true rfl) (Nat.le_of_ble_eq_true rfl) (Nat.le_of_ble_eq_true rfl) ?_
  show V E _ (([] : va_W)) 12 [(0, .int p0), (1, .int p1)] [.int q1]
  refine V_pb C hn [(.iload_n 0, 1), (.bipush 10, 2)] (pc' := 15) (ls' := [(0, .int p0), (1, .int p1)]) (st' := [.int (10 : Int32), .int p0, .int q1]) (decB_ok (by decide +kernel)) rfl rfl ?_
  refine V_irem C (by decide +kernel) (by decide) ?_
  refine V_pb C hn [(.iload_n 1, 1), (.bipush 10, 2)] (pc' := 19) (ls' := [(0, .int p0), (1, .int p1)]) (st' := [.int (10 : Int32), .int p1, .int (irm p0 (10 : Int32)), .int q1]) (decB_ok (by decide +kernel)) rfl rfl ?_
  refine V_irem C (by decide +kernel) (by decide) ?_
  refine V_ic_ne C (off := 7) (tgt := 27) (by decide +kernel) (by decide) h (fun _ h => ?_) (fun _ h => ?_)
  · refine V_pb C hn [(.iconst 0, 1)] (pc' := 24) (ls' := [(0, .int p0), (1, .int p1)]) (st' := [.int (0 : Int32), .int q1]) (decB_ok (by decide +kernel)) rfl rfl ?_
    refine V_goto C (off := 4) (tgt := 28) (by decide +kernel) (by decide) ?_
    refine V_pb C hn [(.iadd, 1)] (pc' := 29) (ls' := [(0, .int p0), (1, .int p1)]) (st' := [.int (q1 + (0 : Int32))]) (decB_ok (by decide +kernel)) rfl rfl ?_
    have h := Option.some.inj h
    subst h
    exact V_iret C (by decide +kernel) rfl
  · refine V_pb C hn [(.iconst 1, 1), (.iadd, 1)] (pc' := 29) (ls' := [(0, .int p0), (1, .int p1)]) (st' := [.int (q1 + (1 : Int32))]) (decB_ok (by decide +kernel)) rfl rfl ?_
    have h := Option.some.inj h
    subst h
    exact V_iret C (by decide +kernel) rfl
set_option maxRecDepth 100000 in
set_option maxHeartbeats 400000 in
theorem cfX5_sets {l : Launch} {G : GG} (a0 : Nat → Nat) {p1 : Int32} {S0 : MT} {out : MT} (h : fX5_sets p1 S0 = some out) : Con l G 0 yX5_sets cX5_sets 2 none [.ref (a0 0), .int p1] (wdM G a0 S0) none (wdM G a0 out) := by
  refine Con_of (by decide +kernel) (Nat.le_of_ble_eq_true rfl) (fun E hl hG hn C => ?_)
  subst hl
  subst hG
  have C : Ctx E cX5_sets RX5 0 none := C
  show V E _ _ 0 [(0, .ref (a0 0)), (1, .int p1)] []
  unfold fX5_sets at h
  refine V_pb C hn [(.aload_n 0, 1), (.iload_n 1, 1), (.bipush 10, 2)] (pc' := 4) (ls' := [(0, .ref (a0 0)), (1, .int p1)]) (st' := [.int (10 : Int32), .int p1, .ref (a0 0)]) (decB_ok (by decide +kernel)) rfl rfl ?_
  refine V_idiv C (by decide +kernel) (by decide) ?_
  obtain ⟨x1, e2, h⟩ := bnd h
  refine V_topi e2 ?_
  obtain ⟨w3, e4, h⟩ := bnd h
  refine V_put C (v := .int x1) (ws' := wdM E.G a0 w3) (by decide +kernel) 0 5 pk_RX5_109 rfl rfl rfl (Nat.le_of_ble_eq_true rfl) (by cases e4; rfl) ?_
  refine V_pb C hn [(.aload_n 0, 1)] (pc' := 9) (ls' := [(0, .ref (a0 0)), (1, .int p1)]) (st' := [.ref (a0 0)]) (decB_ok (by decide +kernel)) rfl rfl ?_
  refine V_get C (v := .ref (a0 4)) (by decide +kernel) 0 6 fk_RX5_19 rfl rfl ?_
  refine V_pb C hn [(.iconst 0, 1), (.iload_n 1, 1), (.bipush 10, 2)] (pc' := 16) (ls' := [(0, .ref (a0 0)), (1, .int p1)]) (st' := [.int (10 : Int32), .int p1, .int (0 : Int32), .ref (a0 4)]) (decB_ok (by decide +kernel)) rfl rfl ?_
  refine V_irem C (by decide +kernel) (by decide) ?_
  obtain ⟨x5, e6, h⟩ := bnd h
  refine V_topi e6 ?_
  obtain ⟨hb9, h⟩ := gd_some h
  obtain ⟨w7, e8, h⟩ := bnd h
  refine V_iast C (f := (m_ways w3)) (ws' := wdM E.G a0 w7) (by decide +kernel) 4 rfl (o := some ()) (out := ()) (by rw [hb9]; rfl) (by cases e8; rfl) (fun _ => ?_)
  have h := Option.some.inj h
  subst h
  exact V_vret C (by decide +kernel)
set_option maxRecDepth 100000 in
set_option maxHeartbeats 400000 in
theorem cfX5_carriesBehind {l : Launch} {G : GG} (a0 : Nat → Nat) {p1 : Int32} {S0 : MT} {out : Int32 × MT} (h : fX5_carriesBehind p1 S0 = some out) : Con l G 10 yX5_carriesBehind cX5_carriesBehind 2 (some .boolean) [.ref (a0 0), .int p1] (wdM G a0 S0) (some (.int out.1)) (wdM G a0 out.2) := by
  refine Con_of (by decide +kernel) (Nat.le_of_ble_eq_true rfl) (fun E hl hG hn C => ?_)
  subst hl
  subst hG
  have C : Ctx E cX5_carriesBehind RX5 10 (some .boolean) := C
  show V E _ _ 0 [(0, .ref (a0 0)), (1, .int p1)] []
  unfold fX5_carriesBehind at h
  refine V_pb C hn [(.iconst 2, 1), (.aload_n 0, 1), (.iload_n 1, 1)] (pc' := 3) (ls' := [(0, .ref (a0 0)), (1, .int p1)]) (st' := [.int p1, .ref (a0 0), .int (2 : Int32)]) (decB_ok (by decide +kernel)) rfl rfl ?_
  obtain ⟨q1, h2, h⟩ := bnd h
  refine V_callV0 C (As := [.int p1]) (rest := [.int (2 : Int32)]) (by decide +kernel) ok_yX5_votesBehind mk_RX5_235 (cfX5_votesBehind (l := E.l) (G := E.G) a0 h2) (q0 := 0) rfl rfl rfl rfl rfl rfl (Nat.le_of_ble_eq_true rfl) (Nat.le_of_ble_eq_true rfl) (Nat.le_of_ble_eq_true rfl) ?_
  show V E _ (wdM E.G a0 q1.2) 6 [(0, .ref (a0 0)), (1, .int p1)] [.int q1.1, .int (2 : Int32)]
  refine V_pb C hn [(.imul, 1), (.aload_n 0, 1)] (pc' := 8) (ls' := [(0, .ref (a0 0)), (1, .int p1)]) (st' := [.ref (a0 0), .int ((2 : Int32) * q1.1)]) (decB_ok (by decide +kernel)) rfl rfl ?_
  obtain ⟨q3, h4, h⟩ := bnd h
  refine V_callV0 C (As := []) (rest := [.int ((2 : Int32) * q1.1)]) (by decide +kernel) ok_yX5_allWeight mk_RX5_216 (cfX5_allWeight (l := E.l) (G := E.G) a0 h4) (q0 := 0) rfl rfl rfl rfl rfl rfl (Nat.le_of_ble_eq_true rfl) (Nat.le_of_ble_eq_true rfl) (Nat.le_of_ble_eq_true rfl) ?_
  show V E _ (wdM E.G a0 q1.2) 11 [(0, .ref (a0 0)), (1, .int p1)] [.int q3, .int ((2 : Int32) * q1.1)]
  refine V_ic_le C (off := 7) (tgt := 18) (by decide +kernel) (by decide) h (fun _ h => ?_) (fun _ h => ?_)
  · refine V_pb C hn [(.iconst 0, 1)] (pc' := 19) (ls' := [(0, .ref (a0 0)), (1, .int p1)]) (st' := [.int (0 : Int32)]) (decB_ok (by decide +kernel)) rfl rfl ?_
    have h := Option.some.inj h
    subst h
    exact V_iret C (v := (0 : Int32)) (by decide +kernel) nb0
  · refine V_pb C hn [(.iconst 1, 1)] (pc' := 15) (ls' := [(0, .ref (a0 0)), (1, .int p1)]) (st' := [.int (1 : Int32)]) (decB_ok (by decide +kernel)) rfl rfl ?_
    refine V_goto C (off := 4) (tgt := 19) (by decide +kernel) (by decide) ?_
    have h := Option.some.inj h
    subst h
    exact V_iret C (v := (1 : Int32)) (by decide +kernel) nb1
set_option maxRecDepth 100000 in
set_option maxHeartbeats 400000 in
theorem cfX5_setting_j16 {E : VE} (C : Ctx E cX5_setting RX5 11 (some .int)) (hn : E.nL = 6) {a0 : Nat → Nat} {p1 : Int32} {p2 : Int32} {S0 : MT} {out : Int32 × MT} (h : fX5_setting_j16 p1 p2 S0 = some out) : V E (QR E (some (.int out.1)) (wdM E.G a0 out.2)) (wdM E.G a0 S0) 16 [(0, .ref (a0 0))] [] := by
  unfold fX5_setting_j16 at h
  refine V_pb C hn [(.aload_n 0, 1), (.bipush (-2), 2)] (pc' := 19) (ls' := [(0, .ref (a0 0))]) (st' := [.int (cI (-2)), .ref (a0 0)]) (decB_ok (by decide +kernel)) rfl rfl ?_
  obtain ⟨q3, h4, h⟩ := bnd h
  refine V_callV0 C (As := [.int (cI (-2))]) (rest := []) (by decide +kernel) ok_yX5_no mk_RX5_77 (cfX5_no (l := E.l) (G := E.G) a0 h4) (q0 := 0) rfl rfl rfl rfl rfl rfl (Nat.le_of_ble_eq_true rfl) (Nat.le_of_ble_eq_true rfl) (Nat.le_of_ble_eq_true rfl) ?_
  show V E _ (wdM E.G a0 q3.2) 22 [(0, .ref (a0 0))] [.int q3.1]
  have h := Option.some.inj h
  subst h
  exact V_iret C (by decide +kernel) rfl
set_option maxRecDepth 100000 in
set_option maxHeartbeats 400000 in
theorem cfX5_setting_j99 {E : VE} (C : Ctx E cX5_setting RX5 11 (some .int)) (hn : E.nL = 6) {a0 : Nat → Nat} {p1 : Int32} {p2 : Int32} {v3 : Int32} {v4 : Int32} {S0 : MT} {out : Int32 × MT} (h : fX5_setting_j99 p1 p2 v3 v4 S0 = some out) : V E (QR E (some (.int out.1)) (wdM E.G a0 out.2)) (wdM E.G a0 S0) 99 [(0, .ref (a0 0)), (2, .int p2), (3, .int v3), (4, .int v4)] [] := by
  unfold fX5_setting_j99 at h
  refine V_pb C hn [(.aload_n 0, 1), (.iload_n 3, 1)] (pc' := 101) (ls' := [(0, .ref (a0 0)), (2, .int p2), (3, .int v3), (4, .int v4)]) (st' := [.int v3, .ref (a0 0)]) (decB_ok (by decide +kernel)) rfl rfl ?_
  obtain ⟨q9, h10, h⟩ := bnd h
  refine V_callV0 C (As := [.int v3]) (rest := []) (by decide +kernel) ok_yX5_sets mk_RX5_265 (cfX5_sets (l := E.l) (G := E.G) a0 h10) (q0 := 0) rfl rfl rfl rfl rfl rfl (Nat.le_of_ble_eq_true rfl) (Nat.le_of_ble_eq_true rfl) (Nat.le_of_ble_eq_true rfl) ?_
  show V E _ (wdM E.G a0 q9) 104 [(0, .ref (a0 0)), (2, .int p2), (3, .int v3), (4, .int v4)] []
  refine V_pb C hn [(.iload 4, 2), (.iconst (-1), 1)] (pc' := 107) (ls' := [(0, .ref (a0 0)), (2, .int p2), (3, .int v3), (4, .int v4)]) (st' := [.int (cI (-1)), .int v4]) (decB_ok (by decide +kernel)) rfl rfl ?_
  refine V_ic_eq C (off := 8) (tgt := 115) (by decide +kernel) (by decide) h (fun _ h => ?_) (fun _ h => ?_)
  · refine V_pb C hn [(.iload 4, 2)] (pc' := 117) (ls' := [(0, .ref (a0 0)), (2, .int p2), (3, .int v3), (4, .int v4)]) (st' := [.int v4]) (decB_ok (by decide +kernel)) rfl rfl ?_
    refine V_goto C (off := 9) (tgt := 126) (by decide +kernel) (by decide) ?_
    have h := Option.some.inj h
    subst h
    exact V_iret C (by decide +kernel) rfl
  · refine V_pb C hn [(.iload_n 2, 1), (.iconst 1, 1)] (pc' := 112) (ls' := [(0, .ref (a0 0)), (2, .int p2), (3, .int v3), (4, .int v4)]) (st' := [.int (1 : Int32), .int p2]) (decB_ok (by decide +kernel)) rfl rfl ?_
    refine V_ic_ne C (off := 8) (tgt := 120) (by decide +kernel) (by decide) h (fun _ h => ?_) (fun _ h => ?_)
    · refine V_pb C hn [(.iload 4, 2)] (pc' := 117) (ls' := [(0, .ref (a0 0)), (2, .int p2), (3, .int v3), (4, .int v4)]) (st' := [.int v4]) (decB_ok (by decide +kernel)) rfl rfl ?_
      refine V_goto C (off := 9) (tgt := 126) (by decide +kernel) (by decide) ?_
      have h := Option.some.inj h
      subst h
      exact V_iret C (by decide +kernel) rfl
    · refine V_pb C hn [(.iload 4, 2), (.iload_n 3, 1)] (pc' := 123) (ls' := [(0, .ref (a0 0)), (2, .int p2), (3, .int v3), (4, .int v4)]) (st' := [.int v3, .int v4]) (decB_ok (by decide +kernel)) rfl rfl ?_
      obtain ⟨q11, h12, h⟩ := bnd h
      refine V_callSp C (As := [.int v4, .int v3]) (rest := []) (by decide +kernel) ok_yX5_unlike mk_RX5_262 (cfX5_unlike (l := E.l) (G := E.G) h12) [] rfl rfl rfl rfl (Nat.le_of_ble_eq_true rfl) (Nat.le_of_ble_eq_true rfl) (Nat.le_of_ble_eq_true rfl) ?_
      show V E _ (wdM E.G a0 q9) 126 [(0, .ref (a0 0)), (2, .int p2), (3, .int v3), (4, .int v4)] [.int q11]
      have h := Option.some.inj h
      subst h
      exact V_iret C (by decide +kernel) rfl
set_option maxRecDepth 100000 in
set_option maxHeartbeats 400000 in
theorem cfX5_setting_j93 {E : VE} (C : Ctx E cX5_setting RX5 11 (some .int)) (hn : E.nL = 6) {a0 : Nat → Nat} {p1 : Int32} {p2 : Int32} {v3 : Int32} {v4 : Int32} {v5 : Int32} {S0 : MT} {out : Int32 × MT} {k34 : Int32 → Int32 → Int32 → MT → Option (Int32 × MT)} (hk34 : ∀ (v3 : Int32) (v4 : Int32) (v5 : Int32) (S0 : MT), k34 v3 v4 v5 S0 = some out → V E (QR E (some (.int out.1)) (wdM E.G a0 out.2)) (wdM E.G a0 S0) 34 [(0, .ref (a0 0)), (1, .int p1), (2, .int p2), (3, .int v3), (4, .int v4), (5, .int v5)] []) (h : fX5_setting_j93 k34 p1 p2 v3 v4 v5 S0 = some out) : V E (QR E (some (.int out.1)) (wdM E.G a0 out.2)) (wdM E.G a0 S0) 93 [(0, .ref (a0 0)), (1, .int p1), (2, .int p2), (3, .int v3), (4, .int v4), (5, .int v5)] [] := by
  unfold fX5_setting_j93 at h
  refine V_pb C hn [(.iinc 5 1, 3)] (pc' := 96) (ls' := [(0, .ref (a0 0)), (1, .int p1), (2, .int p2), (3, .int v3), (4, .int v4), (5, .int (v5 + (1 : Int32)))]) (st' := []) (decB_ok (by decide +kernel)) rfl rfl ?_
  refine V_goto C (off := -62) (tgt := 34) (by decide +kernel) (by decide) ?_
  refine V_sub (ls' := [(0, .ref (a0 0)), (1, .int p1), (2, .int p2), (3, .int v3), (4, .int v4), (5, .int (v5 + (1 : Int32)))]) rfl ?_
  exact hk34 _ _ _ _ h
set_option maxRecDepth 100000 in
set_option maxHeartbeats 400000 in
theorem cfX5_setting_j75 {E : VE} (C : Ctx E cX5_setting RX5 11 (some .int)) (hn : E.nL = 6) {a0 : Nat → Nat} {p1 : Int32} {p2 : Int32} {v3 : Int32} {v4 : Int32} {v5 : Int32} {S0 : MT} {out : Int32 × MT} {k34 : Int32 → Int32 → Int32 → MT → Option (Int32 × MT)} (hk34 : ∀ (v3 : Int32) (v4 : Int32) (v5 : Int32) (S0 : MT), k34 v3 v4 v5 S0 = some out → V E (QR E (some (.int out.1)) (wdM E.G a0 out.2)) (wdM E.G a0 S0) 34 [(0, .ref (a0 0)), (1, .int p1), (2, .int p2), (3, .int v3), (4, .int v4), (5, .int v5)] []) (h : fX5_setting_j75 k34 p1 p2 v3 v4 v5 S0 = some out) : V E (QR E (some (.int out.1)) (wdM E.G a0 out.2)) (wdM E.G a0 S0) 75 [(0, .ref (a0 0)), (1, .int p1), (2, .int p2), (3, .int v3), (4, .int v4), (5, .int v5)] [] := by
  unfold fX5_setting_j75 at h
  refine V_pb C hn [(.aload_n 0, 1), (.iload 5, 2)] (pc' := 78) (ls' := [(0, .ref (a0 0)), (1, .int p1), (2, .int p2), (3, .int v3), (4, .int v4), (5, .int v5)]) (st' := [.int v5, .ref (a0 0)]) (decB_ok (by decide +kernel)) rfl rfl ?_
  obtain ⟨q15, h16, h⟩ := bnd h
  refine V_callV0 C (As := [.int v5]) (rest := []) (by decide +kernel) ok_yX5_sets mk_RX5_265 (cfX5_sets (l := E.l) (G := E.G) a0 h16) (q0 := 0) rfl rfl rfl rfl rfl rfl (Nat.le_of_ble_eq_true rfl) (Nat.le_of_ble_eq_true rfl) (Nat.le_of_ble_eq_true rfl) ?_
  show V E _ (wdM E.G a0 q15) 81 [(0, .ref (a0 0)), (1, .int p1), (2, .int p2), (3, .int v3), (4, .int v4), (5, .int v5)] []
  refine V_pb C hn [(.aload_n 0, 1), (.iload_n 1, 1)] (pc' := 83) (ls' := [(0, .ref (a0 0)), (1, .int p1), (2, .int p2), (3, .int v3), (4, .int v4), (5, .int v5)]) (st' := [.int p1, .ref (a0 0)]) (decB_ok (by decide +kernel)) rfl rfl ?_
  obtain ⟨q17, h18, h⟩ := bnd h
  refine V_callV0 C (As := [.int p1]) (rest := []) (by decide +kernel) ok_yX5_carriesBehind mk_RX5_268 (cfX5_carriesBehind (l := E.l) (G := E.G) a0 h18) (q0 := 0) rfl rfl rfl rfl rfl rfl (Nat.le_of_ble_eq_true rfl) (Nat.le_of_ble_eq_true rfl) (Nat.le_of_ble_eq_true rfl) ?_
  show V E _ (wdM E.G a0 q17.2) 86 [(0, .ref (a0 0)), (1, .int p1), (2, .int p2), (3, .int v3), (4, .int v4), (5, .int v5)] [.int q17.1]
  refine V_if_eq C (off := 7) (tgt := 93) (by decide +kernel) (by decide) h (fun _ h => ?_) (fun _ h => ?_)
  · refine V_sub (ls' := [(0, .ref (a0 0)), (1, .int p1), (2, .int p2), (3, .int v3), (4, .int v4), (5, .int v5)]) rfl ?_
    exact cfX5_setting_j93 C hn (k34 := k34) (hk34) h
  · refine V_pb C hn [(.iload 5, 2), (.istore 4, 2)] (pc' := 93) (ls' := [(0, .ref (a0 0)), (1, .int p1), (2, .int p2), (3, .int v3), (4, .int v5), (5, .int v5)]) (st' := []) (decB_ok (by decide +kernel)) rfl rfl ?_
    refine V_sub (ls' := [(0, .ref (a0 0)), (1, .int p1), (2, .int p2), (3, .int v3), (4, .int v5), (5, .int v5)]) rfl ?_
    exact cfX5_setting_j93 C hn (k34 := k34) (hk34) h
set_option maxRecDepth 100000 in
set_option maxHeartbeats 400000 in
theorem cfX5_setting_L34 {E : VE} (C : Ctx E cX5_setting RX5 11 (some .int)) (hn : E.nL = 6) {a0 : Nat → Nat} {p1 : Int32} {p2 : Int32} {out : Int32 × MT} : ∀ (n : Nat) (v3 : Int32) (v4 : Int32) (v5 : Int32) (S0 : MT), fX5_setting_L34 p1 p2 n v3 v4 v5 S0 = some out → V E (QR E (some (.int out.1)) (wdM E.G a0 out.2)) (wdM E.G a0 S0) 34 [(0, .ref (a0 0)), (1, .int p1), (2, .int p2), (3, .int v3), (4, .int v4), (5, .int v5)] [] := by
  intro n
  induction n with
  | zero =>
    intro v3 v4 v5 S0 h
    cases h
  | succ n ih =>
    intro v3 v4 v5 S0 h
    unfold fX5_setting_L34 at h
    refine V_pb C hn [(.iload 5, 2), (.sipush 155, 3)] (pc' := 39) (ls' := [(0, .ref (a0 0)), (1, .int p1), (2, .int p2), (3, .int v3), (4, .int v4), (5, .int v5)]) (st' := [.int (155 : Int32), .int v5]) (decB_ok (by decide +kernel)) rfl rfl ?_
    refine V_ic_ge C (off := 60) (tgt := 99) (by decide +kernel) (by decide) h (fun _ h => ?_) (fun _ h => ?_)
    · refine V_sub (ls' := [(0, .ref (a0 0)), (2, .int p2), (3, .int v3), (4, .int v4)]) rfl ?_
      exact cfX5_setting_j99 C hn h
    · refine V_pb C hn [(.iload 5, 2), (.i2l, 1)] (pc' := 45) (ls' := [(0, .ref (a0 0)), (1, .int p1), (2, .int p2), (3, .int v3), (4, .int v4), (5, .int v5)]) (st' := [.long v5.toInt64]) (decB_ok (by decide +kernel)) rfl rfl ?_
      obtain ⟨q13, h14, h⟩ := bnd h
      refine V_callSp C (As := [.long v5.toInt64]) (rest := []) (by decide +kernel) ok_yX5_isSetting mk_RX5_258 (cfX5_isSetting (l := E.l) (G := E.G) h14) [] rfl rfl rfl rfl (Nat.le_of_ble_eq_true rfl) (Nat.le_of_ble_eq_true rfl) (Nat.le_of_ble_eq_true rfl) ?_
      show V E _ (wdM E.G a0 S0) 48 [(0, .ref (a0 0)), (1, .int p1), (2, .int p2), (3, .int v3), (4, .int v4), (5, .int v5)] [.int q13]
      refine V_if_eq C (off := 45) (tgt := 93) (by decide +kernel) (by decide) h (fun _ h => ?_) (fun _ h => ?_)
      · refine V_sub (ls' := [(0, .ref (a0 0)), (1, .int p1), (2, .int p2), (3, .int v3), (4, .int v4), (5, .int v5)]) rfl ?_
        exact cfX5_setting_j93 C hn (k34 := (fun v3 v4 v5 S0 => fX5_setting_L34 p1 p2 n v3 v4 v5 S0)) (fun v3 v4 v5 S0 h => ih v3 v4 v5 S0 h) h
      · refine V_pb C hn [(.iload 4, 2), (.iconst (-1), 1)] (pc' := 54) (ls' := [(0, .ref (a0 0)), (1, .int p1), (2, .int p2), (3, .int v3), (4, .int v4), (5, .int v5)]) (st' := [.int (cI (-1)), .int v4]) (decB_ok (by decide +kernel)) rfl rfl ?_
        refine V_ic_eq C (off := 21) (tgt := 75) (by decide +kernel) (by decide) h (fun _ h => ?_) (fun _ h => ?_)
        · refine V_sub (ls' := [(0, .ref (a0 0)), (1, .int p1), (2, .int p2), (3, .int v3), (4, .int v4), (5, .int v5)]) rfl ?_
          exact cfX5_setting_j75 C hn (k34 := (fun v3 v4 v5 S0 => fX5_setting_L34 p1 p2 n v3 v4 v5 S0)) (fun v3 v4 v5 S0 h => ih v3 v4 v5 S0 h) h
        · refine V_pb C hn [(.iload 5, 2), (.iload_n 3, 1)] (pc' := 60) (ls' := [(0, .ref (a0 0)), (1, .int p1), (2, .int p2), (3, .int v3), (4, .int v4), (5, .int v5)]) (st' := [.int v3, .int v5]) (decB_ok (by decide +kernel)) rfl rfl ?_
          obtain ⟨q19, h20, h⟩ := bnd h
          refine V_callSp C (As := [.int v5, .int v3]) (rest := []) (by decide +kernel) ok_yX5_unlike mk_RX5_262 (cfX5_unlike (l := E.l) (G := E.G) h20) [] rfl rfl rfl rfl (Nat.le_of_ble_eq_true rfl) (Nat.le_of_ble_eq_true rfl) (Nat.le_of_ble_eq_true rfl) ?_
          show V E _ (wdM E.G a0 S0) 63 [(0, .ref (a0 0)), (1, .int p1), (2, .int p2), (3, .int v3), (4, .int v4), (5, .int v5)] [.int q19]
          refine V_pb C hn [(.iload 4, 2), (.iload_n 3, 1)] (pc' := 66) (ls' := [(0, .ref (a0 0)), (1, .int p1), (2, .int p2), (3, .int v3), (4, .int v4), (5, .int v5)]) (st' := [.int v3, .int v4, .int q19]) (decB_ok (by decide +kernel)) rfl rfl ?_
          obtain ⟨q21, h22, h⟩ := bnd h
          refine V_callSp C (As := [.int v4, .int v3]) (rest := [.int q19]) (by decide +kernel) ok_yX5_unlike mk_RX5_262 (cfX5_unlike (l := E.l) (G := E.G) h22) [] rfl rfl rfl rfl (Nat.le_of_ble_eq_true rfl) (Nat.le_of_ble_eq_true rfl) (Nat.le_of_ble_eq_true rfl) ?_
          show V E _ (wdM E.G a0 S0) 69 [(0, .ref (a0 0)), (1, .int p1), (2, .int p2), (3, .int v3), (4, .int v4), (5, .int v5)] [.int q21, .int q19]
          refine V_ic_lt C (off := 6) (tgt := 75) (by decide +kernel) (by decide) h (fun _ h => ?_) (fun _ h => ?_)
          · refine V_sub (ls' := [(0, .ref (a0 0)), (1, .int p1), (2, .int p2), (3, .int v3), (4, .int v4), (5, .int v5)]) rfl ?_
            exact cfX5_setting_j75 C hn (k34 := (fun v3 v4 v5 S0 => fX5_setting_L34 p1 p2 n v3 v4 v5 S0)) (fun v3 v4 v5 S0 h => ih v3 v4 v5 S0 h) h
          · refine V_goto C (off := 21) (tgt := 93) (by decide +kernel) (by decide) ?_
            refine V_sub (ls' := [(0, .ref (a0 0)), (1, .int p1), (2, .int p2), (3, .int v3), (4, .int v4), (5, .int v5)]) rfl ?_
            exact cfX5_setting_j93 C hn (k34 := (fun v3 v4 v5 S0 => fX5_setting_L34 p1 p2 n v3 v4 v5 S0)) (fun v3 v4 v5 S0 h => ih v3 v4 v5 S0 h) h
set_option maxRecDepth 100000 in
set_option maxHeartbeats 400000 in
theorem cfX5_setting {l : Launch} {G : GG} (a0 : Nat → Nat) {p1 : Int32} {p2 : Int32} {S0 : MT} {out : Int32 × MT} (h : fX5_setting p1 p2 S0 = some out) : Con l G 11 yX5_setting cX5_setting 6 (some .int) [.ref (a0 0), .int p1, .int p2] (wdM G a0 S0) (some (.int out.1)) (wdM G a0 out.2) := by
  refine Con_of (by decide +kernel) (Nat.le_of_ble_eq_true rfl) (fun E hl hG hn C => ?_)
  subst hl
  subst hG
  have C : Ctx E cX5_setting RX5 11 (some .int) := C
  show V E _ _ 0 [(0, .ref (a0 0)), (1, .int p1), (2, .int p2)] []
  unfold fX5_setting at h
  refine V_pb C hn [(.iload_n 1, 1)] (pc' := 1) (ls' := [(0, .ref (a0 0)), (1, .int p1), (2, .int p2)]) (st' := [.int p1]) (decB_ok (by decide +kernel)) rfl rfl ?_
  obtain ⟨q1, h2, h⟩ := bnd h
  refine V_callSp C (As := [.int p1]) (rest := []) (by decide +kernel) ok_yX5_isTime mk_RX5_241 (cfX5_isTime (l := E.l) (G := E.G) h2) [] rfl rfl rfl rfl (Nat.le_of_ble_eq_true rfl) (Nat.le_of_ble_eq_true rfl) (Nat.le_of_ble_eq_true rfl) ?_
  show V E _ (wdM E.G a0 S0) 4 [(0, .ref (a0 0)), (1, .int p1), (2, .int p2)] [.int q1]
  refine V_if_eq C (off := 12) (tgt := 16) (by decide +kernel) (by decide) h (fun _ h => ?_) (fun _ h => ?_)
  · refine V_sub (ls' := [(0, .ref (a0 0))]) rfl ?_
    exact cfX5_setting_j16 C hn h
  · refine V_pb C hn [(.iload_n 2, 1), (.iconst 0, 1), (.iconst 1, 1)] (pc' := 10) (ls' := [(0, .ref (a0 0)), (1, .int p1), (2, .int p2)]) (st' := [.int (1 : Int32), .int (0 : Int32), .int p2]) (decB_ok (by decide +kernel)) rfl rfl ?_
    obtain ⟨q5, h6, h⟩ := bnd h
    refine V_callSp C (As := [.int p2, .int (0 : Int32), .int (1 : Int32)]) (rest := []) (by decide +kernel) ok_yX5_within mk_RX5_63 (cfX5_within (l := E.l) (G := E.G) h6) [] rfl rfl rfl rfl (Nat.le_of_ble_eq_true rfl) (Nat.le_of_ble_eq_true rfl) (Nat.le_of_ble_eq_true rfl) ?_
    show V E _ (wdM E.G a0 S0) 13 [(0, .ref (a0 0)), (1, .int p1), (2, .int p2)] [.int q5]
    refine V_if_ne C (off := 10) (tgt := 23) (by decide +kernel) (by decide) h (fun _ h => ?_) (fun _ h => ?_)
    · refine V_sub (ls' := [(0, .ref (a0 0))]) rfl ?_
      exact cfX5_setting_j16 C hn h
    · refine V_pb C hn [(.aload_n 0, 1)] (pc' := 24) (ls' := [(0, .ref (a0 0)), (1, .int p1), (2, .int p2)]) (st' := [.ref (a0 0)]) (decB_ok (by decide +kernel)) rfl rfl ?_
      obtain ⟨q7, h8, h⟩ := bnd h
      refine V_callV0 C (As := []) (rest := []) (by decide +kernel) ok_yX5_settingNow mk_RX5_255 (cfX5_settingNow (l := E.l) (G := E.G) a0 h8) (q0 := 0) rfl rfl rfl rfl rfl rfl (Nat.le_of_ble_eq_true rfl) (Nat.le_of_ble_eq_true rfl) (Nat.le_of_ble_eq_true rfl) ?_
      show V E _ (wdM E.G a0 S0) 27 [(0, .ref (a0 0)), (1, .int p1), (2, .int p2)] [.int q7]
      refine V_pb C hn [(.istore_n 3, 1), (.iconst (-1), 1), (.istore 4, 2), (.iconst 0, 1), (.istore 5, 2)] (pc' := 34) (ls' := [(0, .ref (a0 0)), (1, .int p1), (2, .int p2), (3, .int q7), (4, .int (cI (-1))), (5, .int (0 : Int32))]) (st' := []) (decB_ok (by decide +kernel)) rfl rfl ?_
      refine V_sub (ls' := [(0, .ref (a0 0)), (1, .int p1), (2, .int p2), (3, .int q7), (4, .int (cI (-1))), (5, .int (0 : Int32))]) rfl ?_
      exact cfX5_setting_L34 C hn FU _ _ _ _ h
set_option maxRecDepth 100000 in
set_option maxHeartbeats 400000 in
theorem cfX5_noTold {l : Launch} {G : GG} (a0 : Nat → Nat) {p1 : Int32} {p2 : Int32} {S0 : MT} {out : Int32} (h : fX5_noTold p1 p2 S0 = some out) : Con l G 2 yX5_noTold cX5_noTold 3 (some .int) [.ref (a0 0), .int p1, .int p2] (wdM G a0 S0) (some (.int out)) (wdM G a0 S0) := by
  refine Con_of (by decide +kernel) (Nat.le_of_ble_eq_true rfl) (fun E hl hG hn C => ?_)
  subst hl
  subst hG
  have C : Ctx E cX5_noTold RX5 2 (some .int) := C
  show V E _ _ 0 [(0, .ref (a0 0)), (1, .int p1), (2, .int p2)] []
  unfold fX5_noTold at h
  refine V_pb C hn [(.aload_n 0, 1), (.iload_n 1, 1)] (pc' := 2) (ls' := [(0, .ref (a0 0)), (1, .int p1), (2, .int p2)]) (st' := [.int p1, .ref (a0 0)]) (decB_ok (by decide +kernel)) rfl rfl ?_
  obtain ⟨q1, h2, h⟩ := bnd h
  refine V_callV0 C (As := [.int p1]) (rest := []) (by decide +kernel) ok_yX5_isRow mk_RX5_81 (cfX5_isRow (l := E.l) (G := E.G) a0 h2) (q0 := 0) rfl rfl rfl rfl rfl rfl (Nat.le_of_ble_eq_true rfl) (Nat.le_of_ble_eq_true rfl) (Nat.le_of_ble_eq_true rfl) ?_
  show V E _ (wdM E.G a0 S0) 5 [(0, .ref (a0 0)), (1, .int p1), (2, .int p2)] [.int q1]
  refine V_if_ne C (off := 11) (tgt := 16) (by decide +kernel) (by decide) h (fun _ h => ?_) (fun _ h => ?_)
  · refine V_pb C hn [(.aload_n 0, 1), (.iload_n 1, 1)] (pc' := 10) (ls' := [(0, .ref (a0 0)), (1, .int p1), (2, .int p2)]) (st' := [.int p1, .ref (a0 0)]) (decB_ok (by decide +kernel)) rfl rfl ?_
    obtain ⟨q3, h4, h⟩ := bnd h
    refine V_callV0 C (As := [.int p1]) (rest := []) (by decide +kernel) ok_yX5_noRow mk_RX5_84 (cfX5_noRow (l := E.l) (G := E.G) a0 h4) (q0 := 0) rfl rfl rfl rfl rfl rfl (Nat.le_of_ble_eq_true rfl) (Nat.le_of_ble_eq_true rfl) (Nat.le_of_ble_eq_true rfl) ?_
    show V E _ (wdM E.G a0 S0) 13 [(0, .ref (a0 0)), (1, .int p1), (2, .int p2)] [.int q3]
    refine V_goto C (off := 19) (tgt := 32) (by decide +kernel) (by decide) ?_
    have h := Option.some.inj h
    subst h
    exact V_iret C (by decide +kernel) rfl
  · refine V_pb C hn [(.iload_n 2, 1), (.aload_n 0, 1)] (pc' := 18) (ls' := [(0, .ref (a0 0)), (1, .int p1), (2, .int p2)]) (st' := [.ref (a0 0), .int p2]) (decB_ok (by decide +kernel)) rfl rfl ?_
    refine V_get C (v := .ref (a0 7)) (by decide +kernel) 0 15 fk_RX5_28 rfl rfl ?_
    refine V_pb C hn [(.iload_n 1, 1)] (pc' := 22) (ls' := [(0, .ref (a0 0)), (1, .int p1), (2, .int p2)]) (st' := [.int p1, .ref (a0 7), .int p2]) (decB_ok (by decide +kernel)) rfl rfl ?_
    refine V_iald C (f := (m_rowLength S0)) (by decide +kernel) 7 rfl h (fun h => ?_)
    refine V_ic_le C (off := 8) (tgt := 31) (by decide +kernel) (by decide) h (fun _ h => ?_) (fun _ h => ?_)
    · refine V_pb C hn [(.iconst 0, 1)] (pc' := 32) (ls' := [(0, .ref (a0 0)), (1, .int p1), (2, .int p2)]) (st' := [.int (0 : Int32)]) (decB_ok (by decide +kernel)) rfl rfl ?_
      have h := Option.some.inj h
      subst h
      exact V_iret C (by decide +kernel) rfl
    · refine V_pb C hn [(.bipush (-2), 2)] (pc' := 28) (ls' := [(0, .ref (a0 0)), (1, .int p1), (2, .int p2)]) (st' := [.int (cI (-2))]) (decB_ok (by decide +kernel)) rfl rfl ?_
      refine V_goto C (off := 4) (tgt := 32) (by decide +kernel) (by decide) ?_
      have h := Option.some.inj h
      subst h
      exact V_iret C (by decide +kernel) rfl
set_option maxRecDepth 100000 in
set_option maxHeartbeats 400000 in
theorem cfX5_toldAt {l : Launch} {G : GG} (a0 : Nat → Nat) {p1 : Int32} {p2 : Int32} {S0 : MT} {out : Int64} (h : fX5_toldAt p1 p2 S0 = some out) : Con l G 0 yX5_toldAt cX5_toldAt 3 (some .long) [.ref (a0 0), .int p1, .int p2] (wdM G a0 S0) (some (.long out)) (wdM G a0 S0) := by
  refine Con_of (by decide +kernel) (Nat.le_of_ble_eq_true rfl) (fun E hl hG hn C => ?_)
  subst hl
  subst hG
  have C : Ctx E cX5_toldAt RX5 0 (some .long) := C
  show V E _ _ 0 [(0, .ref (a0 0)), (1, .int p1), (2, .int p2)] []
  unfold fX5_toldAt at h
  refine V_pb C hn [(.aload_n 0, 1)] (pc' := 1) (ls' := [(0, .ref (a0 0)), (1, .int p1), (2, .int p2)]) (st' := [.ref (a0 0)]) (decB_ok (by decide +kernel)) rfl rfl ?_
  refine V_get C (v := .ref (a0 8)) (by decide +kernel) 0 16 fk_RX5_31 rfl rfl ?_
  refine V_pb C hn [(.bipush 40, 2), (.iload_n 1, 1), (.imul, 1), (.iload_n 2, 1), (.iadd, 1)] (pc' := 10) (ls' := [(0, .ref (a0 0)), (1, .int p1), (2, .int p2)]) (st' := [.int (((40 : Int32) * p1) + p2), .ref (a0 8)]) (decB_ok (by decide +kernel)) rfl rfl ?_
  refine V_lald C (f := (m_rowOf S0)) (by decide +kernel) 8 rfl h (fun h => ?_)
  have h := Option.some.inj h
  subst h
  exact V_lret C (by decide +kernel)
set_option maxRecDepth 100000 in
set_option maxHeartbeats 400000 in
theorem cfX5_comesTo_j40 {E : VE} (C : Ctx E cX5_comesTo RX5 9 (some .boolean)) (hn : E.nL = 5) {a0 : Nat → Nat} {p1 : Int32} {p2 : Int32} {v3 : Int32} {v4 : Int32} {S0 : MT} {out : Int32 × MT} {k10 : Int32 → Int32 → MT → Option (Int32 × MT)} (hk10 : ∀ (v3 : Int32) (v4 : Int32) (S0 : MT), k10 v3 v4 S0 = some out → V E (QR E (some (.int out.1)) (wdM E.G a0 out.2)) (wdM E.G a0 S0) 10 [(0, .ref (a0 0)), (1, .int p1), (3, .int v3), (4, .int v4)] []) (h : fX5_comesTo_j40 k10 p1 p2 v3 v4 S0 = some out) : V E (QR E (some (.int out.1)) (wdM E.G a0 out.2)) (wdM E.G a0 S0) 40 [(0, .ref (a0 0)), (1, .int p1), (3, .int v3), (4, .int v4)] [] := by
  unfold fX5_comesTo_j40 at h
  refine V_pb C hn [(.iinc 4 1, 3)] (pc' := 43) (ls' := [(0, .ref (a0 0)), (1, .int p1), (3, .int v3), (4, .int (v4 + (1 : Int32)))]) (st' := []) (decB_ok (by decide +kernel)) rfl rfl ?_
  refine V_goto C (off := -33) (tgt := 10) (by decide +kernel) (by decide) ?_
  refine V_sub (ls' := [(0, .ref (a0 0)), (1, .int p1), (3, .int v3), (4, .int (v4 + (1 : Int32)))]) rfl ?_
  exact hk10 _ _ _ h
set_option maxRecDepth 100000 in
set_option maxHeartbeats 400000 in
theorem cfX5_comesTo_L10 {E : VE} (C : Ctx E cX5_comesTo RX5 9 (some .boolean)) (hn : E.nL = 5) {a0 : Nat → Nat} {p1 : Int32} {p2 : Int32} {out : Int32 × MT} : ∀ (n : Nat) (v3 : Int32) (v4 : Int32) (S0 : MT), fX5_comesTo_L10 p1 p2 n v3 v4 S0 = some out → V E (QR E (some (.int out.1)) (wdM E.G a0 out.2)) (wdM E.G a0 S0) 10 [(0, .ref (a0 0)), (1, .int p1), (3, .int v3), (4, .int v4)] [] := by
  intro n
  induction n with
  | zero =>
    intro v3 v4 S0 h
    cases h
  | succ n ih =>
    intro v3 v4 S0 h
    unfold fX5_comesTo_L10 at h
    refine V_pb C hn [(.iload 4, 2), (.aload_n 0, 1)] (pc' := 13) (ls' := [(0, .ref (a0 0)), (1, .int p1), (3, .int v3), (4, .int v4)]) (st' := [.ref (a0 0), .int v4]) (decB_ok (by decide +kernel)) rfl rfl ?_
    refine V_get C (v := .int (m_motes S0)) (by decide +kernel) 0 1 fk_RX5_60 rfl rfl ?_
    refine V_ic_ge C (off := 30) (tgt := 46) (by decide +kernel) (by decide) h (fun _ h => ?_) (fun _ h => ?_)
    · refine V_pb C hn [(.aload_n 0, 1)] (pc' := 47) (ls' := [(0, .ref (a0 0)), (1, .int p1), (3, .int v3), (4, .int v4)]) (st' := [.ref (a0 0)]) (decB_ok (by decide +kernel)) rfl rfl ?_
      obtain ⟨q3, h4, h⟩ := bnd h
      refine V_callV0 C (As := []) (rest := []) (by decide +kernel) ok_yX5_ends mk_RX5_232 (cfX5_ends (l := E.l) (G := E.G) a0 h4) (q0 := 0) rfl rfl rfl rfl rfl rfl (Nat.le_of_ble_eq_true rfl) (Nat.le_of_ble_eq_true rfl) (Nat.le_of_ble_eq_true rfl) ?_
      show V E _ (wdM E.G a0 q3) 50 [(0, .ref (a0 0)), (1, .int p1), (3, .int v3), (4, .int v4)] []
      refine V_pb C hn [(.iload_n 3, 1)] (pc' := 51) (ls' := [(0, .ref (a0 0)), (1, .int p1), (3, .int v3), (4, .int v4)]) (st' := [.int v3]) (decB_ok (by decide +kernel)) rfl rfl ?_
      obtain ⟨hb9, h⟩ := gd_some h
      have h := Option.some.inj h
      subst h
      exact V_iret C (by decide +kernel) (isb_nar hb9)
    · refine V_pb C hn [(.aload_n 0, 1)] (pc' := 20) (ls' := [(0, .ref (a0 0)), (1, .int p1), (3, .int v3), (4, .int v4)]) (st' := [.ref (a0 0)]) (decB_ok (by decide +kernel)) rfl rfl ?_
      refine V_get C (v := .ref (a0 3)) (by decide +kernel) 0 4 fk_RX5_16 rfl rfl ?_
      refine V_pb C hn [(.iload 4, 2)] (pc' := 25) (ls' := [(0, .ref (a0 0)), (1, .int p1), (3, .int v3), (4, .int v4)]) (st' := [.int v4, .ref (a0 3)]) (decB_ok (by decide +kernel)) rfl rfl ?_
      refine V_iald C (f := (m_cell S0)) (by decide +kernel) 3 rfl h (fun h => ?_)
      refine V_pb C hn [(.i2l, 1), (.aload_n 0, 1), (.iload_n 1, 1), (.iload 4, 2)] (pc' := 31) (ls' := [(0, .ref (a0 0)), (1, .int p1), (3, .int v3), (4, .int v4)]) (st' := [.int v4, .int p1, .ref (a0 0), .long ((m_cell S0) (ix v4)).toInt64]) (decB_ok (by decide +kernel)) rfl rfl ?_
      obtain ⟨q5, h6, h⟩ := bnd h
      refine V_callV0 C (As := [.int p1, .int v4]) (rest := [.long ((m_cell S0) (ix v4)).toInt64]) (by decide +kernel) ok_yX5_toldAt mk_RX5_271 (cfX5_toldAt (l := E.l) (G := E.G) a0 h6) (q0 := 0) rfl rfl rfl rfl rfl rfl (Nat.le_of_ble_eq_true rfl) (Nat.le_of_ble_eq_true rfl) (Nat.le_of_ble_eq_true rfl) ?_
      show V E _ (wdM E.G a0 S0) 34 [(0, .ref (a0 0)), (1, .int p1), (3, .int v3), (4, .int v4)] [.long q5, .long ((m_cell S0) (ix v4)).toInt64]
      refine V_pb C hn [(.lcmp, 1)] (pc' := 35) (ls' := [(0, .ref (a0 0)), (1, .int p1), (3, .int v3), (4, .int v4)]) (st' := [.int (lg_cmp (((m_cell S0) (ix v4)).toInt64) q5)]) (decB_ok (by decide +kernel)) rfl rfl ?_
      refine V_if_eq C (off := 5) (tgt := 40) (by decide +kernel) (by decide) h (fun _ h => ?_) (fun _ h => ?_)
      · refine V_sub (ls' := [(0, .ref (a0 0)), (1, .int p1), (3, .int v3), (4, .int v4)]) rfl ?_
        exact cfX5_comesTo_j40 C hn (k10 := (fun v3 v4 S0 => fX5_comesTo_L10 p1 p2 n v3 v4 S0)) (fun v3 v4 S0 h => ih v3 v4 S0 h) h
      · refine V_pb C hn [(.iconst 0, 1), (.istore_n 3, 1)] (pc' := 40) (ls' := [(0, .ref (a0 0)), (1, .int p1), (3, .int (0 : Int32)), (4, .int v4)]) (st' := []) (decB_ok (by decide +kernel)) rfl rfl ?_
        refine V_sub (ls' := [(0, .ref (a0 0)), (1, .int p1), (3, .int (0 : Int32)), (4, .int v4)]) rfl ?_
        exact cfX5_comesTo_j40 C hn (k10 := (fun v3 v4 S0 => fX5_comesTo_L10 p1 p2 n v3 v4 S0)) (fun v3 v4 S0 h => ih v3 v4 S0 h) h
set_option maxRecDepth 100000 in
set_option maxHeartbeats 400000 in
theorem cfX5_comesTo {l : Launch} {G : GG} (a0 : Nat → Nat) {p1 : Int32} {p2 : Int32} {S0 : MT} {out : Int32 × MT} (h : fX5_comesTo p1 p2 S0 = some out) : Con l G 9 yX5_comesTo cX5_comesTo 5 (some .boolean) [.ref (a0 0), .int p1, .int p2] (wdM G a0 S0) (some (.int out.1)) (wdM G a0 out.2) := by
  refine Con_of (by decide +kernel) (Nat.le_of_ble_eq_true rfl) (fun E hl hG hn C => ?_)
  subst hl
  subst hG
  have C : Ctx E cX5_comesTo RX5 9 (some .boolean) := C
  show V E _ _ 0 [(0, .ref (a0 0)), (1, .int p1), (2, .int p2)] []
  unfold fX5_comesTo at h
  refine V_pb C hn [(.aload_n 0, 1), (.iload_n 2, 1)] (pc' := 2) (ls' := [(0, .ref (a0 0)), (1, .int p1), (2, .int p2)]) (st' := [.int p2, .ref (a0 0)]) (decB_ok (by decide +kernel)) rfl rfl ?_
  obtain ⟨q1, h2, h⟩ := bnd h
  refine V_callV0 C (As := [.int p2]) (rest := []) (by decide +kernel) ok_yX5_goesOn mk_RX5_228 (cfX5_goesOn (l := E.l) (G := E.G) a0 h2) (q0 := 0) rfl rfl rfl rfl rfl rfl (Nat.le_of_ble_eq_true rfl) (Nat.le_of_ble_eq_true rfl) (Nat.le_of_ble_eq_true rfl) ?_
  show V E _ (wdM E.G a0 q1) 5 [(0, .ref (a0 0)), (1, .int p1), (2, .int p2)] []
  refine V_pb C hn [(.iconst 1, 1), (.istore_n 3, 1), (.iconst 0, 1), (.istore 4, 2)] (pc' := 10) (ls' := [(0, .ref (a0 0)), (1, .int p1), (2, .int p2), (3, .int (1 : Int32)), (4, .int (0 : Int32))]) (st' := []) (decB_ok (by decide +kernel)) rfl rfl ?_
  refine V_sub (ls' := [(0, .ref (a0 0)), (1, .int p1), (3, .int (1 : Int32)), (4, .int (0 : Int32))]) rfl ?_
  exact cfX5_comesTo_L10 C hn FU _ _ _ h
set_option maxRecDepth 100000 in
set_option maxHeartbeats 400000 in
theorem cfX5_which_j23 {E : VE} (C : Ctx E cX5_which RX5 10 (some .int)) (hn : E.nL = 9) {a0 : Nat → Nat} {p1 : Int32} {p2 : Int32} {p3 : Int32} {S0 : MT} {out : Int32 × MT} (h : fX5_which_j23 p1 p2 p3 S0 = some out) : V E (QR E (some (.int out.1)) (wdM E.G a0 out.2)) (wdM E.G a0 S0) 23 [(0, .ref (a0 0))] [] := by
  unfold fX5_which_j23 at h
  refine V_pb C hn [(.aload_n 0, 1), (.bipush (-2), 2)] (pc' := 26) (ls' := [(0, .ref (a0 0))]) (st' := [.int (cI (-2)), .ref (a0 0)]) (decB_ok (by decide +kernel)) rfl rfl ?_
  obtain ⟨q3, h4, h⟩ := bnd h
  refine V_callV0 C (As := [.int (cI (-2))]) (rest := []) (by decide +kernel) ok_yX5_no mk_RX5_77 (cfX5_no (l := E.l) (G := E.G) a0 h4) (q0 := 0) rfl rfl rfl rfl rfl rfl (Nat.le_of_ble_eq_true rfl) (Nat.le_of_ble_eq_true rfl) (Nat.le_of_ble_eq_true rfl) ?_
  show V E _ (wdM E.G a0 q3.2) 29 [(0, .ref (a0 0))] [.int q3.1]
  have h := Option.some.inj h
  subst h
  exact V_iret C (by decide +kernel) rfl
set_option maxRecDepth 100000 in
set_option maxHeartbeats 400000 in
theorem cfX5_which_j118 {E : VE} (C : Ctx E cX5_which RX5 10 (some .int)) (hn : E.nL = 9) {a0 : Nat → Nat} {p1 : Int32} {p2 : Int32} {p3 : Int32} {v5 : Int32} {v6 : Int32} {v7 : Int32} {S0 : MT} {out : Int32 × MT} (h : fX5_which_j118 p1 p2 p3 v5 v6 v7 S0 = some out) : V E (QR E (some (.int out.1)) (wdM E.G a0 out.2)) (wdM E.G a0 S0) 118 [(0, .ref (a0 0)), (3, .int p3), (5, .int v5), (6, .int v6), (7, .int v7)] [] := by
  unfold fX5_which_j118 at h
  refine V_pb C hn [(.aload_n 0, 1), (.iload 5, 2)] (pc' := 121) (ls' := [(0, .ref (a0 0)), (3, .int p3), (5, .int v5), (6, .int v6), (7, .int v7)]) (st' := [.int v5, .ref (a0 0)]) (decB_ok (by decide +kernel)) rfl rfl ?_
  obtain ⟨q13, h14, h⟩ := bnd h
  refine V_callV0 C (As := [.int v5]) (rest := []) (by decide +kernel) ok_yX5_sets mk_RX5_265 (cfX5_sets (l := E.l) (G := E.G) a0 h14) (q0 := 0) rfl rfl rfl rfl rfl rfl (Nat.le_of_ble_eq_true rfl) (Nat.le_of_ble_eq_true rfl) (Nat.le_of_ble_eq_true rfl) ?_
  show V E _ (wdM E.G a0 q13) 124 [(0, .ref (a0 0)), (3, .int p3), (5, .int v5), (6, .int v6), (7, .int v7)] []
  refine V_pb C hn [(.iload_n 3, 1)] (pc' := 125) (ls' := [(0, .ref (a0 0)), (3, .int p3), (5, .int v5), (6, .int v6), (7, .int v7)]) (st' := [.int p3]) (decB_ok (by decide +kernel)) rfl rfl ?_
  refine V_if_ne C (off := 8) (tgt := 133) (by decide +kernel) (by decide) h (fun _ h => ?_) (fun _ h => ?_)
  · refine V_pb C hn [(.iload 6, 2)] (pc' := 130) (ls' := [(0, .ref (a0 0)), (3, .int p3), (5, .int v5), (6, .int v6), (7, .int v7)]) (st' := [.int v6]) (decB_ok (by decide +kernel)) rfl rfl ?_
    refine V_goto C (off := 5) (tgt := 135) (by decide +kernel) (by decide) ?_
    have h := Option.some.inj h
    subst h
    exact V_iret C (by decide +kernel) rfl
  · refine V_pb C hn [(.iload 7, 2)] (pc' := 135) (ls' := [(0, .ref (a0 0)), (3, .int p3), (5, .int v5), (6, .int v6), (7, .int v7)]) (st' := [.int v7]) (decB_ok (by decide +kernel)) rfl rfl ?_
    have h := Option.some.inj h
    subst h
    exact V_iret C (by decide +kernel) rfl
set_option maxRecDepth 100000 in
set_option maxHeartbeats 400000 in
theorem cfX5_which_j112 {E : VE} (C : Ctx E cX5_which RX5 10 (some .int)) (hn : E.nL = 9) {a0 : Nat → Nat} {p1 : Int32} {p2 : Int32} {p3 : Int32} {v5 : Int32} {v6 : Int32} {v7 : Int32} {v8 : Int32} {S0 : MT} {out : Int32 × MT} {k70 : Int32 → Int32 → Int32 → Int32 → MT → Option (Int32 × MT)} (hk70 : ∀ (v5 : Int32) (v6 : Int32) (v7 : Int32) (v8 : Int32) (S0 : MT), k70 v5 v6 v7 v8 S0 = some out → V E (QR E (some (.int out.1)) (wdM E.G a0 out.2)) (wdM E.G a0 S0) 70 [(0, .ref (a0 0)), (1, .int p1), (2, .int p2), (3, .int p3), (5, .int v5), (6, .int v6), (7, .int v7), (8, .int v8)] []) (h : fX5_which_j112 k70 p1 p2 p3 v5 v6 v7 v8 S0 = some out) : V E (QR E (some (.int out.1)) (wdM E.G a0 out.2)) (wdM E.G a0 S0) 112 [(0, .ref (a0 0)), (1, .int p1), (2, .int p2), (3, .int p3), (5, .int v5), (6, .int v6), (7, .int v7), (8, .int v8)] [] := by
  unfold fX5_which_j112 at h
  refine V_pb C hn [(.iinc 8 (-1), 3)] (pc' := 115) (ls' := [(0, .ref (a0 0)), (1, .int p1), (2, .int p2), (3, .int p3), (5, .int v5), (6, .int v6), (7, .int v7), (8, .int (v8 + (cI (-1))))]) (st' := []) (decB_ok (by decide +kernel)) rfl rfl ?_
  refine V_goto C (off := -45) (tgt := 70) (by decide +kernel) (by decide) ?_
  refine V_sub (ls' := [(0, .ref (a0 0)), (1, .int p1), (2, .int p2), (3, .int p3), (5, .int v5), (6, .int v6), (7, .int v7), (8, .int (v8 + (cI (-1))))]) rfl ?_
  exact hk70 _ _ _ _ _ h
set_option maxRecDepth 100000 in
set_option maxHeartbeats 400000 in
theorem cfX5_which_L70 {E : VE} (C : Ctx E cX5_which RX5 10 (some .int)) (hn : E.nL = 9) {a0 : Nat → Nat} {p1 : Int32} {p2 : Int32} {p3 : Int32} {out : Int32 × MT} : ∀ (n : Nat) (v5 : Int32) (v6 : Int32) (v7 : Int32) (v8 : Int32) (S0 : MT), fX5_which_L70 p1 p2 p3 n v5 v6 v7 v8 S0 = some out → V E (QR E (some (.int out.1)) (wdM E.G a0 out.2)) (wdM E.G a0 S0) 70 [(0, .ref (a0 0)), (1, .int p1), (2, .int p2), (3, .int p3), (5, .int v5), (6, .int v6), (7, .int v7), (8, .int v8)] [] := by
  intro n
  induction n with
  | zero =>
    intro v5 v6 v7 v8 S0 h
    cases h
  | succ n ih =>
    intro v5 v6 v7 v8 S0 h
    unfold fX5_which_L70 at h
    refine V_pb C hn [(.iload 8, 2)] (pc' := 72) (ls' := [(0, .ref (a0 0)), (1, .int p1), (2, .int p2), (3, .int p3), (5, .int v5), (6, .int v6), (7, .int v7), (8, .int v8)]) (st' := [.int v8]) (decB_ok (by decide +kernel)) rfl rfl ?_
    refine V_if_lt C (off := 46) (tgt := 118) (by decide +kernel) (by decide) h (fun _ h => ?_) (fun _ h => ?_)
    · refine V_sub (ls' := [(0, .ref (a0 0)), (3, .int p3), (5, .int v5), (6, .int v6), (7, .int v7)]) rfl ?_
      exact cfX5_which_j118 C hn h
    · refine V_pb C hn [(.iload 8, 2), (.i2l, 1)] (pc' := 78) (ls' := [(0, .ref (a0 0)), (1, .int p1), (2, .int p2), (3, .int p3), (5, .int v5), (6, .int v6), (7, .int v7), (8, .int v8)]) (st' := [.long v8.toInt64]) (decB_ok (by decide +kernel)) rfl rfl ?_
      obtain ⟨q15, h16, h⟩ := bnd h
      refine V_callSp C (As := [.long v8.toInt64]) (rest := []) (by decide +kernel) ok_yX5_isSetting mk_RX5_258 (cfX5_isSetting (l := E.l) (G := E.G) h16) [] rfl rfl rfl rfl (Nat.le_of_ble_eq_true rfl) (Nat.le_of_ble_eq_true rfl) (Nat.le_of_ble_eq_true rfl) ?_
      show V E _ (wdM E.G a0 S0) 81 [(0, .ref (a0 0)), (1, .int p1), (2, .int p2), (3, .int p3), (5, .int v5), (6, .int v6), (7, .int v7), (8, .int v8)] [.int q15]
      refine V_if_ne C (off := 6) (tgt := 87) (by decide +kernel) (by decide) h (fun _ h => ?_) (fun _ h => ?_)
      · refine V_goto C (off := 28) (tgt := 112) (by decide +kernel) (by decide) ?_
        refine V_sub (ls' := [(0, .ref (a0 0)), (1, .int p1), (2, .int p2), (3, .int p3), (5, .int v5), (6, .int v6), (7, .int v7), (8, .int v8)]) rfl ?_
        exact cfX5_which_j112 C hn (k70 := (fun v5 v6 v7 v8 S0 => fX5_which_L70 p1 p2 p3 n v5 v6 v7 v8 S0)) (fun v5 v6 v7 v8 S0 h => ih v5 v6 v7 v8 S0 h) h
      · refine V_pb C hn [(.aload_n 0, 1), (.iload 8, 2)] (pc' := 90) (ls' := [(0, .ref (a0 0)), (1, .int p1), (2, .int p2), (3, .int p3), (5, .int v5), (6, .int v6), (7, .int v7), (8, .int v8)]) (st' := [.int v8, .ref (a0 0)]) (decB_ok (by decide +kernel)) rfl rfl ?_
        obtain ⟨q17, h18, h⟩ := bnd h
        refine V_callV0 C (As := [.int v8]) (rest := []) (by decide +kernel) ok_yX5_sets mk_RX5_265 (cfX5_sets (l := E.l) (G := E.G) a0 h18) (q0 := 0) rfl rfl rfl rfl rfl rfl (Nat.le_of_ble_eq_true rfl) (Nat.le_of_ble_eq_true rfl) (Nat.le_of_ble_eq_true rfl) ?_
        show V E _ (wdM E.G a0 q17) 93 [(0, .ref (a0 0)), (1, .int p1), (2, .int p2), (3, .int p3), (5, .int v5), (6, .int v6), (7, .int v7), (8, .int v8)] []
        refine V_pb C hn [(.aload_n 0, 1), (.iload_n 1, 1), (.iload_n 2, 1)] (pc' := 96) (ls' := [(0, .ref (a0 0)), (1, .int p1), (2, .int p2), (3, .int p3), (5, .int v5), (6, .int v6), (7, .int v7), (8, .int v8)]) (st' := [.int p2, .int p1, .ref (a0 0)]) (decB_ok (by decide +kernel)) rfl rfl ?_
        obtain ⟨q19, h20, h⟩ := bnd h
        refine V_callV0 C (As := [.int p1, .int p2]) (rest := []) (by decide +kernel) ok_yX5_comesTo mk_RX5_278 (cfX5_comesTo (l := E.l) (G := E.G) a0 h20) (q0 := 0) rfl rfl rfl rfl rfl rfl (Nat.le_of_ble_eq_true rfl) (Nat.le_of_ble_eq_true rfl) (Nat.le_of_ble_eq_true rfl) ?_
        show V E _ (wdM E.G a0 q19.2) 99 [(0, .ref (a0 0)), (1, .int p1), (2, .int p2), (3, .int p3), (5, .int v5), (6, .int v6), (7, .int v7), (8, .int v8)] [.int q19.1]
        refine V_if_ne C (off := 6) (tgt := 105) (by decide +kernel) (by decide) h (fun _ h => ?_) (fun _ h => ?_)
        · refine V_goto C (off := 10) (tgt := 112) (by decide +kernel) (by decide) ?_
          refine V_sub (ls' := [(0, .ref (a0 0)), (1, .int p1), (2, .int p2), (3, .int p3), (5, .int v5), (6, .int v6), (7, .int v7), (8, .int v8)]) rfl ?_
          exact cfX5_which_j112 C hn (k70 := (fun v5 v6 v7 v8 S0 => fX5_which_L70 p1 p2 p3 n v5 v6 v7 v8 S0)) (fun v5 v6 v7 v8 S0 h => ih v5 v6 v7 v8 S0 h) h
        · refine V_pb C hn [(.iinc 6 1, 3), (.iload 8, 2), (.istore 7, 2)] (pc' := 112) (ls' := [(0, .ref (a0 0)), (1, .int p1), (2, .int p2), (3, .int p3), (5, .int v5), (6, .int (v6 + (1 : Int32))), (7, .int v8), (8, .int v8)]) (st' := []) (decB_ok (by decide +kernel)) rfl rfl ?_
          refine V_sub (ls' := [(0, .ref (a0 0)), (1, .int p1), (2, .int p2), (3, .int p3), (5, .int v5), (6, .int (v6 + (1 : Int32))), (7, .int v8), (8, .int v8)]) rfl ?_
          exact cfX5_which_j112 C hn (k70 := (fun v5 v6 v7 v8 S0 => fX5_which_L70 p1 p2 p3 n v5 v6 v7 v8 S0)) (fun v5 v6 v7 v8 S0 h => ih v5 v6 v7 v8 S0 h) h
set_option maxRecDepth 100000 in
set_option maxHeartbeats 400000 in
theorem cfX5_which {l : Launch} {G : GG} (a0 : Nat → Nat) {p1 : Int32} {p2 : Int32} {p3 : Int32} {S0 : MT} {out : Int32 × MT} (h : fX5_which p1 p2 p3 S0 = some out) : Con l G 10 yX5_which cX5_which 9 (some .int) [.ref (a0 0), .int p1, .int p2, .int p3] (wdM G a0 S0) (some (.int out.1)) (wdM G a0 out.2) := by
  refine Con_of (by decide +kernel) (Nat.le_of_ble_eq_true rfl) (fun E hl hG hn C => ?_)
  subst hl
  subst hG
  have C : Ctx E cX5_which RX5 10 (some .int) := C
  show V E _ _ 0 [(0, .ref (a0 0)), (1, .int p1), (2, .int p2), (3, .int p3)] []
  unfold fX5_which at h
  refine V_pb C hn [(.iload_n 1, 1)] (pc' := 1) (ls' := [(0, .ref (a0 0)), (1, .int p1), (2, .int p2), (3, .int p3)]) (st' := [.int p1]) (decB_ok (by decide +kernel)) rfl rfl ?_
  obtain ⟨q1, h2, h⟩ := bnd h
  refine V_callSp C (As := [.int p1]) (rest := []) (by decide +kernel) ok_yX5_isShelf mk_RX5_73 (cfX5_isShelf (l := E.l) (G := E.G) h2) [] rfl rfl rfl rfl (Nat.le_of_ble_eq_true rfl) (Nat.le_of_ble_eq_true rfl) (Nat.le_of_ble_eq_true rfl) ?_
  show V E _ (wdM E.G a0 S0) 4 [(0, .ref (a0 0)), (1, .int p1), (2, .int p2), (3, .int p3)] [.int q1]
  refine V_if_eq C (off := 19) (tgt := 23) (by decide +kernel) (by decide) h (fun _ h => ?_) (fun _ h => ?_)
  · refine V_sub (ls' := [(0, .ref (a0 0))]) rfl ?_
    exact cfX5_which_j23 C hn h
  · refine V_pb C hn [(.iload_n 2, 1)] (pc' := 8) (ls' := [(0, .ref (a0 0)), (1, .int p1), (2, .int p2), (3, .int p3)]) (st' := [.int p2]) (decB_ok (by decide +kernel)) rfl rfl ?_
    obtain ⟨q5, h6, h⟩ := bnd h
    refine V_callSp C (As := [.int p2]) (rest := []) (by decide +kernel) ok_yX5_isTime mk_RX5_241 (cfX5_isTime (l := E.l) (G := E.G) h6) [] rfl rfl rfl rfl (Nat.le_of_ble_eq_true rfl) (Nat.le_of_ble_eq_true rfl) (Nat.le_of_ble_eq_true rfl) ?_
    show V E _ (wdM E.G a0 S0) 11 [(0, .ref (a0 0)), (1, .int p1), (2, .int p2), (3, .int p3)] [.int q5]
    refine V_if_eq C (off := 12) (tgt := 23) (by decide +kernel) (by decide) h (fun _ h => ?_) (fun _ h => ?_)
    · refine V_sub (ls' := [(0, .ref (a0 0))]) rfl ?_
      exact cfX5_which_j23 C hn h
    · refine V_pb C hn [(.iload_n 3, 1), (.iconst 0, 1), (.iconst 1, 1)] (pc' := 17) (ls' := [(0, .ref (a0 0)), (1, .int p1), (2, .int p2), (3, .int p3)]) (st' := [.int (1 : Int32), .int (0 : Int32), .int p3]) (decB_ok (by decide +kernel)) rfl rfl ?_
      obtain ⟨q7, h8, h⟩ := bnd h
      refine V_callSp C (As := [.int p3, .int (0 : Int32), .int (1 : Int32)]) (rest := []) (by decide +kernel) ok_yX5_within mk_RX5_63 (cfX5_within (l := E.l) (G := E.G) h8) [] rfl rfl rfl rfl (Nat.le_of_ble_eq_true rfl) (Nat.le_of_ble_eq_true rfl) (Nat.le_of_ble_eq_true rfl) ?_
      show V E _ (wdM E.G a0 S0) 20 [(0, .ref (a0 0)), (1, .int p1), (2, .int p2), (3, .int p3)] [.int q7]
      refine V_if_ne C (off := 10) (tgt := 30) (by decide +kernel) (by decide) h (fun _ h => ?_) (fun _ h => ?_)
      · refine V_sub (ls' := [(0, .ref (a0 0))]) rfl ?_
        exact cfX5_which_j23 C hn h
      · refine V_pb C hn [(.aload_n 0, 1), (.iload_n 1, 1), (.aload_n 0, 1)] (pc' := 33) (ls' := [(0, .ref (a0 0)), (1, .int p1), (2, .int p2), (3, .int p3)]) (st' := [.ref (a0 0), .int p1, .ref (a0 0)]) (decB_ok (by decide +kernel)) rfl rfl ?_
        refine V_get C (v := .int (m_motes S0)) (by decide +kernel) 0 1 fk_RX5_60 rfl rfl ?_
        obtain ⟨q9, h10, h⟩ := bnd h
        refine V_callV0 C (As := [.int p1, .int (m_motes S0)]) (rest := []) (by decide +kernel) ok_yX5_noTold mk_RX5_275 (cfX5_noTold (l := E.l) (G := E.G) a0 h10) (q0 := 0) rfl rfl rfl rfl rfl rfl (Nat.le_of_ble_eq_true rfl) (Nat.le_of_ble_eq_true rfl) (Nat.le_of_ble_eq_true rfl) ?_
        show V E _ (wdM E.G a0 S0) 39 [(0, .ref (a0 0)), (1, .int p1), (2, .int p2), (3, .int p3)] [.int q9]
        refine V_pb C hn [(.istore 4, 2), (.iload 4, 2)] (pc' := 43) (ls' := [(0, .ref (a0 0)), (1, .int p1), (2, .int p2), (3, .int p3), (4, .int q9)]) (st' := [.int q9]) (decB_ok (by decide +kernel)) rfl rfl ?_
        refine V_if_ge C (off := 10) (tgt := 53) (by decide +kernel) (by decide) h (fun _ h => ?_) (fun _ h => ?_)
        · refine V_pb C hn [(.aload_n 0, 1)] (pc' := 54) (ls' := [(0, .ref (a0 0)), (1, .int p1), (2, .int p2), (3, .int p3), (4, .int q9)]) (st' := [.ref (a0 0)]) (decB_ok (by decide +kernel)) rfl rfl ?_
          obtain ⟨q11, h12, h⟩ := bnd h
          refine V_callV0 C (As := []) (rest := []) (by decide +kernel) ok_yX5_settingNow mk_RX5_255 (cfX5_settingNow (l := E.l) (G := E.G) a0 h12) (q0 := 0) rfl rfl rfl rfl rfl rfl (Nat.le_of_ble_eq_true rfl) (Nat.le_of_ble_eq_true rfl) (Nat.le_of_ble_eq_true rfl) ?_
          show V E _ (wdM E.G a0 S0) 57 [(0, .ref (a0 0)), (1, .int p1), (2, .int p2), (3, .int p3), (4, .int q9)] [.int q11]
          refine V_pb C hn [(.istore 5, 2), (.iconst 0, 1), (.istore 6, 2), (.iconst (-1), 1), (.istore 7, 2), (.sipush 154, 3), (.istore 8, 2)] (pc' := 70) (ls' := [(0, .ref (a0 0)), (1, .int p1), (2, .int p2), (3, .int p3), (4, .int q9), (5, .int q11), (6, .int (0 : Int32)), (7, .int (cI (-1))), (8, .int (154 : Int32))]) (st' := []) (decB_ok (by decide +kernel)) rfl rfl ?_
          refine V_sub (ls' := [(0, .ref (a0 0)), (1, .int p1), (2, .int p2), (3, .int p3), (5, .int q11), (6, .int (0 : Int32)), (7, .int (cI (-1))), (8, .int (154 : Int32))]) rfl ?_
          exact cfX5_which_L70 C hn FU _ _ _ _ _ h
        · refine V_pb C hn [(.aload_n 0, 1), (.iload 4, 2)] (pc' := 49) (ls' := [(0, .ref (a0 0)), (1, .int p1), (2, .int p2), (3, .int p3), (4, .int q9)]) (st' := [.int q9, .ref (a0 0)]) (decB_ok (by decide +kernel)) rfl rfl ?_
          obtain ⟨q21, h22, h⟩ := bnd h
          refine V_callV0 C (As := [.int q9]) (rest := []) (by decide +kernel) ok_yX5_no mk_RX5_77 (cfX5_no (l := E.l) (G := E.G) a0 h22) (q0 := 0) rfl rfl rfl rfl rfl rfl (Nat.le_of_ble_eq_true rfl) (Nat.le_of_ble_eq_true rfl) (Nat.le_of_ble_eq_true rfl) ?_
          show V E _ (wdM E.G a0 q21.2) 52 [(0, .ref (a0 0)), (1, .int p1), (2, .int p2), (3, .int p3), (4, .int q9)] [.int q21.1]
          have h := Option.some.inj h
          subst h
          exact V_iret C (by decide +kernel) rfl
set_option maxRecDepth 100000 in
set_option maxHeartbeats 400000 in
theorem cfX5_goesSo_j41 {E : VE} (C : Ctx E cX5_goesSo RX5 8 (some .boolean)) (hn : E.nL = 6) {a0 : Nat → Nat} {p1 : Int32} {p2 : Int32} {p3 : Int32} {v4 : Int32} {v5 : Int32} {S0 : MT} {out : Int32 × MT} {k10 : Int32 → Int32 → MT → Option (Int32 × MT)} (hk10 : ∀ (v4 : Int32) (v5 : Int32) (S0 : MT), k10 v4 v5 S0 = some out → V E (QR E (some (.int out.1)) (wdM E.G a0 out.2)) (wdM E.G a0 S0) 10 [(0, .ref (a0 0)), (1, .int p1), (2, .int p2), (3, .int p3), (4, .int v4), (5, .int v5)] []) (h : fX5_goesSo_j41 k10 p1 p2 p3 v4 v5 S0 = some out) : V E (QR E (some (.int out.1)) (wdM E.G a0 out.2)) (wdM E.G a0 S0) 41 [(0, .ref (a0 0)), (1, .int p1), (2, .int p2), (3, .int p3), (4, .int v4), (5, .int v5)] [] := by
  unfold fX5_goesSo_j41 at h
  refine V_pb C hn [(.iinc 5 1, 3)] (pc' := 44) (ls' := [(0, .ref (a0 0)), (1, .int p1), (2, .int p2), (3, .int p3), (4, .int v4), (5, .int (v5 + (1 : Int32)))]) (st' := []) (decB_ok (by decide +kernel)) rfl rfl ?_
  refine V_goto C (off := -34) (tgt := 10) (by decide +kernel) (by decide) ?_
  refine V_sub (ls' := [(0, .ref (a0 0)), (1, .int p1), (2, .int p2), (3, .int p3), (4, .int v4), (5, .int (v5 + (1 : Int32)))]) rfl ?_
  exact hk10 _ _ _ h
set_option maxRecDepth 100000 in
set_option maxHeartbeats 400000 in
theorem cfX5_goesSo_L10 {E : VE} (C : Ctx E cX5_goesSo RX5 8 (some .boolean)) (hn : E.nL = 6) {a0 : Nat → Nat} {p1 : Int32} {p2 : Int32} {p3 : Int32} {out : Int32 × MT} : ∀ (n : Nat) (v4 : Int32) (v5 : Int32) (S0 : MT), fX5_goesSo_L10 p1 p2 p3 n v4 v5 S0 = some out → V E (QR E (some (.int out.1)) (wdM E.G a0 out.2)) (wdM E.G a0 S0) 10 [(0, .ref (a0 0)), (1, .int p1), (2, .int p2), (3, .int p3), (4, .int v4), (5, .int v5)] [] := by
  intro n
  induction n with
  | zero =>
    intro v4 v5 S0 h
    cases h
  | succ n ih =>
    intro v4 v5 S0 h
    unfold fX5_goesSo_L10 at h
    refine V_pb C hn [(.iload 5, 2), (.iload_n 2, 1)] (pc' := 13) (ls' := [(0, .ref (a0 0)), (1, .int p1), (2, .int p2), (3, .int p3), (4, .int v4), (5, .int v5)]) (st' := [.int p2, .int v5]) (decB_ok (by decide +kernel)) rfl rfl ?_
    refine V_ic_ge C (off := 34) (tgt := 47) (by decide +kernel) (by decide) h (fun _ h => ?_) (fun _ h => ?_)
    · refine V_pb C hn [(.aload_n 0, 1)] (pc' := 48) (ls' := [(0, .ref (a0 0)), (1, .int p1), (2, .int p2), (3, .int p3), (4, .int v4), (5, .int v5)]) (st' := [.ref (a0 0)]) (decB_ok (by decide +kernel)) rfl rfl ?_
      obtain ⟨q3, h4, h⟩ := bnd h
      refine V_callV0 C (As := []) (rest := []) (by decide +kernel) ok_yX5_ends mk_RX5_232 (cfX5_ends (l := E.l) (G := E.G) a0 h4) (q0 := 0) rfl rfl rfl rfl rfl rfl (Nat.le_of_ble_eq_true rfl) (Nat.le_of_ble_eq_true rfl) (Nat.le_of_ble_eq_true rfl) ?_
      show V E _ (wdM E.G a0 q3) 51 [(0, .ref (a0 0)), (1, .int p1), (2, .int p2), (3, .int p3), (4, .int v4), (5, .int v5)] []
      refine V_pb C hn [(.iload 4, 2)] (pc' := 53) (ls' := [(0, .ref (a0 0)), (1, .int p1), (2, .int p2), (3, .int p3), (4, .int v4), (5, .int v5)]) (st' := [.int v4]) (decB_ok (by decide +kernel)) rfl rfl ?_
      obtain ⟨hb9, h⟩ := gd_some h
      have h := Option.some.inj h
      subst h
      exact V_iret C (by decide +kernel) (isb_nar hb9)
    · refine V_pb C hn [(.aload_n 0, 1)] (pc' := 17) (ls' := [(0, .ref (a0 0)), (1, .int p1), (2, .int p2), (3, .int p3), (4, .int v4), (5, .int v5)]) (st' := [.ref (a0 0)]) (decB_ok (by decide +kernel)) rfl rfl ?_
      obtain ⟨q5, h6, h⟩ := bnd h
      refine V_callV0 C (As := []) (rest := []) (by decide +kernel) ok_yX5_step mk_RX5_225 (cfX5_step (l := E.l) (G := E.G) a0 h6) (q0 := 0) rfl rfl rfl rfl rfl rfl (Nat.le_of_ble_eq_true rfl) (Nat.le_of_ble_eq_true rfl) (Nat.le_of_ble_eq_true rfl) ?_
      show V E _ (wdM E.G a0 q5) 20 [(0, .ref (a0 0)), (1, .int p1), (2, .int p2), (3, .int p3), (4, .int v4), (5, .int v5)] []
      refine V_pb C hn [(.aload_n 0, 1)] (pc' := 21) (ls' := [(0, .ref (a0 0)), (1, .int p1), (2, .int p2), (3, .int p3), (4, .int v4), (5, .int v5)]) (st' := [.ref (a0 0)]) (decB_ok (by decide +kernel)) rfl rfl ?_
      refine V_get C (v := .ref (a0 3)) (by decide +kernel) 0 4 fk_RX5_16 rfl rfl ?_
      refine V_pb C hn [(.iload_n 3, 1)] (pc' := 25) (ls' := [(0, .ref (a0 0)), (1, .int p1), (2, .int p2), (3, .int p3), (4, .int v4), (5, .int v5)]) (st' := [.int p3, .ref (a0 3)]) (decB_ok (by decide +kernel)) rfl rfl ?_
      refine V_iald C (f := (m_cell q5)) (by decide +kernel) 3 rfl h (fun h => ?_)
      refine V_pb C hn [(.i2l, 1), (.aload_n 0, 1), (.iload_n 1, 1), (.iload 5, 2)] (pc' := 31) (ls' := [(0, .ref (a0 0)), (1, .int p1), (2, .int p2), (3, .int p3), (4, .int v4), (5, .int v5)]) (st' := [.int v5, .int p1, .ref (a0 0), .long ((m_cell q5) (ix p3)).toInt64]) (decB_ok (by decide +kernel)) rfl rfl ?_
      obtain ⟨q7, h8, h⟩ := bnd h
      refine V_callV0 C (As := [.int p1, .int v5]) (rest := [.long ((m_cell q5) (ix p3)).toInt64]) (by decide +kernel) ok_yX5_toldAt mk_RX5_271 (cfX5_toldAt (l := E.l) (G := E.G) a0 h8) (q0 := 0) rfl rfl rfl rfl rfl rfl (Nat.le_of_ble_eq_true rfl) (Nat.le_of_ble_eq_true rfl) (Nat.le_of_ble_eq_true rfl) ?_
      show V E _ (wdM E.G a0 q5) 34 [(0, .ref (a0 0)), (1, .int p1), (2, .int p2), (3, .int p3), (4, .int v4), (5, .int v5)] [.long q7, .long ((m_cell q5) (ix p3)).toInt64]
      refine V_pb C hn [(.lcmp, 1)] (pc' := 35) (ls' := [(0, .ref (a0 0)), (1, .int p1), (2, .int p2), (3, .int p3), (4, .int v4), (5, .int v5)]) (st' := [.int (lg_cmp (((m_cell q5) (ix p3)).toInt64) q7)]) (decB_ok (by decide +kernel)) rfl rfl ?_
      refine V_if_eq C (off := 6) (tgt := 41) (by decide +kernel) (by decide) h (fun _ h => ?_) (fun _ h => ?_)
      · refine V_sub (ls' := [(0, .ref (a0 0)), (1, .int p1), (2, .int p2), (3, .int p3), (4, .int v4), (5, .int v5)]) rfl ?_
        exact cfX5_goesSo_j41 C hn (k10 := (fun v4 v5 S0 => fX5_goesSo_L10 p1 p2 p3 n v4 v5 S0)) (fun v4 v5 S0 h => ih v4 v5 S0 h) h
      · refine V_pb C hn [(.iconst 0, 1), (.istore 4, 2)] (pc' := 41) (ls' := [(0, .ref (a0 0)), (1, .int p1), (2, .int p2), (3, .int p3), (4, .int (0 : Int32)), (5, .int v5)]) (st' := []) (decB_ok (by decide +kernel)) rfl rfl ?_
        refine V_sub (ls' := [(0, .ref (a0 0)), (1, .int p1), (2, .int p2), (3, .int p3), (4, .int (0 : Int32)), (5, .int v5)]) rfl ?_
        exact cfX5_goesSo_j41 C hn (k10 := (fun v4 v5 S0 => fX5_goesSo_L10 p1 p2 p3 n v4 v5 S0)) (fun v4 v5 S0 h => ih v4 v5 S0 h) h
set_option maxRecDepth 100000 in
set_option maxHeartbeats 400000 in
theorem cfX5_goesSo {l : Launch} {G : GG} (a0 : Nat → Nat) {p1 : Int32} {p2 : Int32} {p3 : Int32} {S0 : MT} {out : Int32 × MT} (h : fX5_goesSo p1 p2 p3 S0 = some out) : Con l G 8 yX5_goesSo cX5_goesSo 6 (some .boolean) [.ref (a0 0), .int p1, .int p2, .int p3] (wdM G a0 S0) (some (.int out.1)) (wdM G a0 out.2) := by
  refine Con_of (by decide +kernel) (Nat.le_of_ble_eq_true rfl) (fun E hl hG hn C => ?_)
  subst hl
  subst hG
  have C : Ctx E cX5_goesSo RX5 8 (some .boolean) := C
  show V E _ _ 0 [(0, .ref (a0 0)), (1, .int p1), (2, .int p2), (3, .int p3)] []
  unfold fX5_goesSo at h
  refine V_pb C hn [(.aload_n 0, 1)] (pc' := 1) (ls' := [(0, .ref (a0 0)), (1, .int p1), (2, .int p2), (3, .int p3)]) (st' := [.ref (a0 0)]) (decB_ok (by decide +kernel)) rfl rfl ?_
  obtain ⟨q1, h2, h⟩ := bnd h
  refine V_callV0 C (As := []) (rest := []) (by decide +kernel) ok_yX5_begins mk_RX5_222 (cfX5_begins (l := E.l) (G := E.G) a0 h2) (q0 := 0) rfl rfl rfl rfl rfl rfl (Nat.le_of_ble_eq_true rfl) (Nat.le_of_ble_eq_true rfl) (Nat.le_of_ble_eq_true rfl) ?_
  show V E _ (wdM E.G a0 q1) 4 [(0, .ref (a0 0)), (1, .int p1), (2, .int p2), (3, .int p3)] []
  refine V_pb C hn [(.iconst 1, 1), (.istore 4, 2), (.iconst 0, 1), (.istore 5, 2)] (pc' := 10) (ls' := [(0, .ref (a0 0)), (1, .int p1), (2, .int p2), (3, .int p3), (4, .int (1 : Int32)), (5, .int (0 : Int32))]) (st' := []) (decB_ok (by decide +kernel)) rfl rfl ?_
  refine V_sub (ls' := [(0, .ref (a0 0)), (1, .int p1), (2, .int p2), (3, .int p3), (4, .int (1 : Int32)), (5, .int (0 : Int32))]) rfl ?_
  exact cfX5_goesSo_L10 C hn FU _ _ _ h
set_option maxRecDepth 100000 in
set_option maxHeartbeats 400000 in
theorem cfX5_kinds_j25 {E : VE} (C : Ctx E cX5_kinds RX5 9 (some .int)) (hn : E.nL = 8) {a0 : Nat → Nat} {p1 : Int32} {p2 : Int32} {p3 : Int32} {S0 : MT} {out : Int32 × MT} (h : fX5_kinds_j25 p1 p2 p3 S0 = some out) : V E (QR E (some (.int out.1)) (wdM E.G a0 out.2)) (wdM E.G a0 S0) 25 [(0, .ref (a0 0))] [] := by
  unfold fX5_kinds_j25 at h
  refine V_pb C hn [(.aload_n 0, 1), (.bipush (-2), 2)] (pc' := 28) (ls' := [(0, .ref (a0 0))]) (st' := [.int (cI (-2)), .ref (a0 0)]) (decB_ok (by decide +kernel)) rfl rfl ?_
  obtain ⟨q3, h4, h⟩ := bnd h
  refine V_callV0 C (As := [.int (cI (-2))]) (rest := []) (by decide +kernel) ok_yX5_no mk_RX5_77 (cfX5_no (l := E.l) (G := E.G) a0 h4) (q0 := 0) rfl rfl rfl rfl rfl rfl (Nat.le_of_ble_eq_true rfl) (Nat.le_of_ble_eq_true rfl) (Nat.le_of_ble_eq_true rfl) ?_
  show V E _ (wdM E.G a0 q3.2) 31 [(0, .ref (a0 0))] [.int q3.1]
  have h := Option.some.inj h
  subst h
  exact V_iret C (by decide +kernel) rfl
set_option maxRecDepth 100000 in
set_option maxHeartbeats 400000 in
theorem cfX5_kinds_j106 {E : VE} (C : Ctx E cX5_kinds RX5 9 (some .int)) (hn : E.nL = 8) {a0 : Nat → Nat} {p1 : Int32} {p2 : Int32} {p3 : Int32} {v5 : Int32} {v6 : Int32} {S0 : MT} {out : Int32 × MT} (h : fX5_kinds_j106 p1 p2 p3 v5 v6 S0 = some out) : V E (QR E (some (.int out.1)) (wdM E.G a0 out.2)) (wdM E.G a0 S0) 106 [(0, .ref (a0 0)), (3, .int p3), (5, .int v5), (6, .int v6)] [] := by
  unfold fX5_kinds_j106 at h
  refine V_pb C hn [(.aload_n 0, 1)] (pc' := 107) (ls' := [(0, .ref (a0 0)), (3, .int p3), (5, .int v5), (6, .int v6)]) (st' := [.ref (a0 0)]) (decB_ok (by decide +kernel)) rfl rfl ?_
  refine V_get C (v := .ref (a0 1)) (by decide +kernel) 0 2 fk_RX5_7 rfl rfl ?_
  refine V_pb C hn [(.iload_n 3, 1), (.iload 5, 2)] (pc' := 113) (ls' := [(0, .ref (a0 0)), (3, .int p3), (5, .int v5), (6, .int v6)]) (st' := [.int v5, .int p3, .ref (a0 1)]) (decB_ok (by decide +kernel)) rfl rfl ?_
  obtain ⟨hb9, h⟩ := gd_some h
  obtain ⟨w11, e12, h⟩ := bnd h
  refine V_iast C (f := (m_kind S0)) (ws' := wdM E.G a0 w11) (by decide +kernel) 1 rfl (o := some ()) (out := ()) (by rw [hb9]; rfl) (by cases e12; rfl) (fun _ => ?_)
  refine V_pb C hn [(.iload 6, 2)] (pc' := 116) (ls' := [(0, .ref (a0 0)), (3, .int p3), (5, .int v5), (6, .int v6)]) (st' := [.int v6]) (decB_ok (by decide +kernel)) rfl rfl ?_
  have h := Option.some.inj h
  subst h
  exact V_iret C (by decide +kernel) rfl
set_option maxRecDepth 100000 in
set_option maxHeartbeats 400000 in
theorem cfX5_kinds_j100 {E : VE} (C : Ctx E cX5_kinds RX5 9 (some .int)) (hn : E.nL = 8) {a0 : Nat → Nat} {p1 : Int32} {p2 : Int32} {p3 : Int32} {v5 : Int32} {v6 : Int32} {v7 : Int32} {S0 : MT} {out : Int32 × MT} {k66 : Int32 → Int32 → Int32 → MT → Option (Int32 × MT)} (hk66 : ∀ (v5 : Int32) (v6 : Int32) (v7 : Int32) (S0 : MT), k66 v5 v6 v7 S0 = some out → V E (QR E (some (.int out.1)) (wdM E.G a0 out.2)) (wdM E.G a0 S0) 66 [(0, .ref (a0 0)), (1, .int p1), (2, .int p2), (3, .int p3), (5, .int v5), (6, .int v6), (7, .int v7)] []) (h : fX5_kinds_j100 k66 p1 p2 p3 v5 v6 v7 S0 = some out) : V E (QR E (some (.int out.1)) (wdM E.G a0 out.2)) (wdM E.G a0 S0) 100 [(0, .ref (a0 0)), (1, .int p1), (2, .int p2), (3, .int p3), (5, .int v5), (6, .int v6), (7, .int v7)] [] := by
  unfold fX5_kinds_j100 at h
  refine V_pb C hn [(.iinc 7 1, 3)] (pc' := 103) (ls' := [(0, .ref (a0 0)), (1, .int p1), (2, .int p2), (3, .int p3), (5, .int v5), (6, .int v6), (7, .int (v7 + (1 : Int32)))]) (st' := []) (decB_ok (by decide +kernel)) rfl rfl ?_
  refine V_goto C (off := -37) (tgt := 66) (by decide +kernel) (by decide) ?_
  refine V_sub (ls' := [(0, .ref (a0 0)), (1, .int p1), (2, .int p2), (3, .int p3), (5, .int v5), (6, .int v6), (7, .int (v7 + (1 : Int32)))]) rfl ?_
  exact hk66 _ _ _ _ h
set_option maxRecDepth 100000 in
set_option maxHeartbeats 400000 in
theorem cfX5_kinds_L66 {E : VE} (C : Ctx E cX5_kinds RX5 9 (some .int)) (hn : E.nL = 8) {a0 : Nat → Nat} {p1 : Int32} {p2 : Int32} {p3 : Int32} {out : Int32 × MT} : ∀ (n : Nat) (v5 : Int32) (v6 : Int32) (v7 : Int32) (S0 : MT), fX5_kinds_L66 p1 p2 p3 n v5 v6 v7 S0 = some out → V E (QR E (some (.int out.1)) (wdM E.G a0 out.2)) (wdM E.G a0 S0) 66 [(0, .ref (a0 0)), (1, .int p1), (2, .int p2), (3, .int p3), (5, .int v5), (6, .int v6), (7, .int v7)] [] := by
  intro n
  induction n with
  | zero =>
    intro v5 v6 v7 S0 h
    cases h
  | succ n ih =>
    intro v5 v6 v7 S0 h
    unfold fX5_kinds_L66 at h
    refine V_pb C hn [(.iload 7, 2), (.bipush 6, 2)] (pc' := 70) (ls' := [(0, .ref (a0 0)), (1, .int p1), (2, .int p2), (3, .int p3), (5, .int v5), (6, .int v6), (7, .int v7)]) (st' := [.int (6 : Int32), .int v7]) (decB_ok (by decide +kernel)) rfl rfl ?_
    refine V_ic_ge C (off := 36) (tgt := 106) (by decide +kernel) (by decide) h (fun _ h => ?_) (fun _ h => ?_)
    · refine V_sub (ls' := [(0, .ref (a0 0)), (3, .int p3), (5, .int v5), (6, .int v6)]) rfl ?_
      exact cfX5_kinds_j106 C hn h
    · refine V_pb C hn [(.aload_n 0, 1)] (pc' := 74) (ls' := [(0, .ref (a0 0)), (1, .int p1), (2, .int p2), (3, .int p3), (5, .int v5), (6, .int v6), (7, .int v7)]) (st' := [.ref (a0 0)]) (decB_ok (by decide +kernel)) rfl rfl ?_
      refine V_get C (v := .ref (a0 1)) (by decide +kernel) 0 2 fk_RX5_7 rfl rfl ?_
      refine V_pb C hn [(.iload_n 3, 1), (.iload 7, 2)] (pc' := 80) (ls' := [(0, .ref (a0 0)), (1, .int p1), (2, .int p2), (3, .int p3), (5, .int v5), (6, .int v6), (7, .int v7)]) (st' := [.int v7, .int p3, .ref (a0 1)]) (decB_ok (by decide +kernel)) rfl rfl ?_
      obtain ⟨hb9, h⟩ := gd_some h
      obtain ⟨w13, e14, h⟩ := bnd h
      refine V_iast C (f := (m_kind S0)) (ws' := wdM E.G a0 w13) (by decide +kernel) 1 rfl (o := some ()) (out := ()) (by rw [hb9]; rfl) (by cases e14; rfl) (fun _ => ?_)
      refine V_pb C hn [(.aload_n 0, 1), (.iload_n 1, 1), (.iload_n 2, 1), (.iload_n 3, 1)] (pc' := 85) (ls' := [(0, .ref (a0 0)), (1, .int p1), (2, .int p2), (3, .int p3), (5, .int v5), (6, .int v6), (7, .int v7)]) (st' := [.int p3, .int p2, .int p1, .ref (a0 0)]) (decB_ok (by decide +kernel)) rfl rfl ?_
      obtain ⟨q15, h16, h⟩ := bnd h
      refine V_callV0 C (As := [.int p1, .int p2, .int p3]) (rest := []) (by decide +kernel) ok_yX5_goesSo mk_RX5_281 (cfX5_goesSo (l := E.l) (G := E.G) a0 h16) (q0 := 0) rfl rfl rfl rfl rfl rfl (Nat.le_of_ble_eq_true rfl) (Nat.le_of_ble_eq_true rfl) (Nat.le_of_ble_eq_true rfl) ?_
      show V E _ (wdM E.G a0 q15.2) 88 [(0, .ref (a0 0)), (1, .int p1), (2, .int p2), (3, .int p3), (5, .int v5), (6, .int v6), (7, .int v7)] [.int q15.1]
      refine V_if_eq C (off := 12) (tgt := 100) (by decide +kernel) (by decide) h (fun _ h => ?_) (fun _ h => ?_)
      · refine V_sub (ls' := [(0, .ref (a0 0)), (1, .int p1), (2, .int p2), (3, .int p3), (5, .int v5), (6, .int v6), (7, .int v7)]) rfl ?_
        exact cfX5_kinds_j100 C hn (k66 := (fun v5 v6 v7 S0 => fX5_kinds_L66 p1 p2 p3 n v5 v6 v7 S0)) (fun v5 v6 v7 S0 h => ih v5 v6 v7 S0 h) h
      · refine V_pb C hn [(.iload 6, 2), (.iconst 1, 1), (.iload 7, 2), (.ishl, 1), (.ior, 1), (.istore 6, 2)] (pc' := 100) (ls' := [(0, .ref (a0 0)), (1, .int p1), (2, .int p2), (3, .int p3), (5, .int v5), (6, .int (v6 ||| (jshl (1 : Int32) v7))), (7, .int v7)]) (st' := []) (decB_ok (by decide +kernel)) rfl rfl ?_
        refine V_sub (ls' := [(0, .ref (a0 0)), (1, .int p1), (2, .int p2), (3, .int p3), (5, .int v5), (6, .int (v6 ||| (jshl (1 : Int32) v7))), (7, .int v7)]) rfl ?_
        exact cfX5_kinds_j100 C hn (k66 := (fun v5 v6 v7 S0 => fX5_kinds_L66 p1 p2 p3 n v5 v6 v7 S0)) (fun v5 v6 v7 S0 h => ih v5 v6 v7 S0 h) h
set_option maxRecDepth 100000 in
set_option maxHeartbeats 400000 in
theorem cfX5_kinds {l : Launch} {G : GG} (a0 : Nat → Nat) {p1 : Int32} {p2 : Int32} {p3 : Int32} {S0 : MT} {out : Int32 × MT} (h : fX5_kinds p1 p2 p3 S0 = some out) : Con l G 9 yX5_kinds cX5_kinds 8 (some .int) [.ref (a0 0), .int p1, .int p2, .int p3] (wdM G a0 S0) (some (.int out.1)) (wdM G a0 out.2) := by
  refine Con_of (by decide +kernel) (Nat.le_of_ble_eq_true rfl) (fun E hl hG hn C => ?_)
  subst hl
  subst hG
  have C : Ctx E cX5_kinds RX5 9 (some .int) := C
  show V E _ _ 0 [(0, .ref (a0 0)), (1, .int p1), (2, .int p2), (3, .int p3)] []
  unfold fX5_kinds at h
  refine V_pb C hn [(.iload_n 1, 1)] (pc' := 1) (ls' := [(0, .ref (a0 0)), (1, .int p1), (2, .int p2), (3, .int p3)]) (st' := [.int p1]) (decB_ok (by decide +kernel)) rfl rfl ?_
  obtain ⟨q1, h2, h⟩ := bnd h
  refine V_callSp C (As := [.int p1]) (rest := []) (by decide +kernel) ok_yX5_isShelf mk_RX5_73 (cfX5_isShelf (l := E.l) (G := E.G) h2) [] rfl rfl rfl rfl (Nat.le_of_ble_eq_true rfl) (Nat.le_of_ble_eq_true rfl) (Nat.le_of_ble_eq_true rfl) ?_
  show V E _ (wdM E.G a0 S0) 4 [(0, .ref (a0 0)), (1, .int p1), (2, .int p2), (3, .int p3)] [.int q1]
  refine V_if_eq C (off := 21) (tgt := 25) (by decide +kernel) (by decide) h (fun _ h => ?_) (fun _ h => ?_)
  · refine V_sub (ls' := [(0, .ref (a0 0))]) rfl ?_
    exact cfX5_kinds_j25 C hn h
  · refine V_pb C hn [(.iload_n 2, 1), (.iconst 0, 1), (.bipush 40, 2)] (pc' := 11) (ls' := [(0, .ref (a0 0)), (1, .int p1), (2, .int p2), (3, .int p3)]) (st' := [.int (40 : Int32), .int (0 : Int32), .int p2]) (decB_ok (by decide +kernel)) rfl rfl ?_
    obtain ⟨q5, h6, h⟩ := bnd h
    refine V_callSp C (As := [.int p2, .int (0 : Int32), .int (40 : Int32)]) (rest := []) (by decide +kernel) ok_yX5_within mk_RX5_63 (cfX5_within (l := E.l) (G := E.G) h6) [] rfl rfl rfl rfl (Nat.le_of_ble_eq_true rfl) (Nat.le_of_ble_eq_true rfl) (Nat.le_of_ble_eq_true rfl) ?_
    show V E _ (wdM E.G a0 S0) 14 [(0, .ref (a0 0)), (1, .int p1), (2, .int p2), (3, .int p3)] [.int q5]
    refine V_if_eq C (off := 11) (tgt := 25) (by decide +kernel) (by decide) h (fun _ h => ?_) (fun _ h => ?_)
    · refine V_sub (ls' := [(0, .ref (a0 0))]) rfl ?_
      exact cfX5_kinds_j25 C hn h
    · refine V_pb C hn [(.aload_n 0, 1), (.iload_n 3, 1)] (pc' := 19) (ls' := [(0, .ref (a0 0)), (1, .int p1), (2, .int p2), (3, .int p3)]) (st' := [.int p3, .ref (a0 0)]) (decB_ok (by decide +kernel)) rfl rfl ?_
      obtain ⟨q7, h8, h⟩ := bnd h
      refine V_callV0 C (As := [.int p3]) (rest := []) (by decide +kernel) ok_yX5_isMote mk_RX5_91 (cfX5_isMote (l := E.l) (G := E.G) a0 h8) (q0 := 0) rfl rfl rfl rfl rfl rfl (Nat.le_of_ble_eq_true rfl) (Nat.le_of_ble_eq_true rfl) (Nat.le_of_ble_eq_true rfl) ?_
      show V E _ (wdM E.G a0 S0) 22 [(0, .ref (a0 0)), (1, .int p1), (2, .int p2), (3, .int p3)] [.int q7]
      refine V_if_ne C (off := 10) (tgt := 32) (by decide +kernel) (by decide) h (fun _ h => ?_) (fun _ h => ?_)
      · refine V_sub (ls' := [(0, .ref (a0 0))]) rfl ?_
        exact cfX5_kinds_j25 C hn h
      · refine V_pb C hn [(.aload_n 0, 1), (.iload_n 1, 1), (.iload_n 2, 1)] (pc' := 35) (ls' := [(0, .ref (a0 0)), (1, .int p1), (2, .int p2), (3, .int p3)]) (st' := [.int p2, .int p1, .ref (a0 0)]) (decB_ok (by decide +kernel)) rfl rfl ?_
        obtain ⟨q9, h10, h⟩ := bnd h
        refine V_callV0 C (As := [.int p1, .int p2]) (rest := []) (by decide +kernel) ok_yX5_noTold mk_RX5_275 (cfX5_noTold (l := E.l) (G := E.G) a0 h10) (q0 := 0) rfl rfl rfl rfl rfl rfl (Nat.le_of_ble_eq_true rfl) (Nat.le_of_ble_eq_true rfl) (Nat.le_of_ble_eq_true rfl) ?_
        show V E _ (wdM E.G a0 S0) 38 [(0, .ref (a0 0)), (1, .int p1), (2, .int p2), (3, .int p3)] [.int q9]
        refine V_pb C hn [(.istore 4, 2), (.iload 4, 2)] (pc' := 42) (ls' := [(0, .ref (a0 0)), (1, .int p1), (2, .int p2), (3, .int p3), (4, .int q9)]) (st' := [.int q9]) (decB_ok (by decide +kernel)) rfl rfl ?_
        refine V_if_ge C (off := 10) (tgt := 52) (by decide +kernel) (by decide) h (fun _ h => ?_) (fun _ h => ?_)
        · refine V_pb C hn [(.aload_n 0, 1)] (pc' := 53) (ls' := [(0, .ref (a0 0)), (1, .int p1), (2, .int p2), (3, .int p3), (4, .int q9)]) (st' := [.ref (a0 0)]) (decB_ok (by decide +kernel)) rfl rfl ?_
          refine V_get C (v := .ref (a0 1)) (by decide +kernel) 0 2 fk_RX5_7 rfl rfl ?_
          refine V_pb C hn [(.iload_n 3, 1)] (pc' := 57) (ls' := [(0, .ref (a0 0)), (1, .int p1), (2, .int p2), (3, .int p3), (4, .int q9)]) (st' := [.int p3, .ref (a0 1)]) (decB_ok (by decide +kernel)) rfl rfl ?_
          refine V_iald C (f := (m_kind S0)) (by decide +kernel) 1 rfl h (fun h => ?_)
          refine V_pb C hn [(.istore 5, 2), (.iconst 0, 1), (.istore 6, 2), (.iconst 0, 1), (.istore 7, 2)] (pc' := 66) (ls' := [(0, .ref (a0 0)), (1, .int p1), (2, .int p2), (3, .int p3), (4, .int q9), (5, .int ((m_kind S0) (ix p3))), (6, .int (0 : Int32)), (7, .int (0 : Int32))]) (st' := []) (decB_ok (by decide +kernel)) rfl rfl ?_
          refine V_sub (ls' := [(0, .ref (a0 0)), (1, .int p1), (2, .int p2), (3, .int p3), (5, .int ((m_kind S0) (ix p3))), (6, .int (0 : Int32)), (7, .int (0 : Int32))]) rfl ?_
          exact cfX5_kinds_L66 C hn FU _ _ _ _ h
        · refine V_pb C hn [(.aload_n 0, 1), (.iload 4, 2)] (pc' := 48) (ls' := [(0, .ref (a0 0)), (1, .int p1), (2, .int p2), (3, .int p3), (4, .int q9)]) (st' := [.int q9, .ref (a0 0)]) (decB_ok (by decide +kernel)) rfl rfl ?_
          obtain ⟨q17, h18, h⟩ := bnd h
          refine V_callV0 C (As := [.int q9]) (rest := []) (by decide +kernel) ok_yX5_no mk_RX5_77 (cfX5_no (l := E.l) (G := E.G) a0 h18) (q0 := 0) rfl rfl rfl rfl rfl rfl (Nat.le_of_ble_eq_true rfl) (Nat.le_of_ble_eq_true rfl) (Nat.le_of_ble_eq_true rfl) ?_
          show V E _ (wdM E.G a0 q17.2) 51 [(0, .ref (a0 0)), (1, .int p1), (2, .int p2), (3, .int p3), (4, .int q9)] [.int q17.1]
          have h := Option.some.inj h
          subst h
          exact V_iret C (by decide +kernel) rfl
set_option maxRecDepth 100000 in
set_option maxHeartbeats 400000 in
theorem cfX5_apart {l : Launch} {G : GG} {p0 : Int32} {p1 : Int32} {out : Int32} (h : fX5_apart p0 p1 = some out) : Con l G 1 yX5_apart cX5_apart 2 (some .int) [.int p0, .int p1] (([] : va_W)) (some (.int out)) (([] : va_W)) := by
  refine Con_of (by decide +kernel) (Nat.le_of_ble_eq_true rfl) (fun E hl hG hn C => ?_)
  subst hl
  subst hG
  have C : Ctx E cX5_apart RX5 1 (some .int) := C
  show V E _ _ 0 [(0, .int p0), (1, .int p1)] []
  unfold fX5_apart at h
  refine V_pb C hn [(.iload_n 0, 1), (.bipush 10, 2)] (pc' := 3) (ls' := [(0, .int p0), (1, .int p1)]) (st' := [.int (10 : Int32), .int p0]) (decB_ok (by decide +kernel)) rfl rfl ?_
  refine V_idiv C (by decide +kernel) (by decide) ?_
  refine V_pb C hn [(.iload_n 1, 1), (.bipush 10, 2)] (pc' := 7) (ls' := [(0, .int p0), (1, .int p1)]) (st' := [.int (10 : Int32), .int p1, .int (p0 / (10 : Int32))]) (decB_ok (by decide +kernel)) rfl rfl ?_
  refine V_idiv C (by decide +kernel) (by decide) ?_
  refine V_pb C hn [(.isub, 1)] (pc' := 9) (ls' := [(0, .int p0), (1, .int p1)]) (st' := [.int ((p0 / (10 : Int32)) - (p1 / (10 : Int32)))]) (decB_ok (by decide +kernel)) rfl rfl ?_
  refine V_abs C (by decide +kernel) mk_RX5_284 (Nat.le_of_ble_eq_true rfl) (Nat.le_of_ble_eq_true rfl) ?_
  refine V_pb C hn [(.iload_n 0, 1), (.bipush 10, 2)] (pc' := 15) (ls' := [(0, .int p0), (1, .int p1)]) (st' := [.int (10 : Int32), .int p0, .int (jabs ((p0 / (10 : Int32)) - (p1 / (10 : Int32))))]) (decB_ok (by decide +kernel)) rfl rfl ?_
  refine V_irem C (by decide +kernel) (by decide) ?_
  refine V_pb C hn [(.iload_n 1, 1), (.bipush 10, 2)] (pc' := 19) (ls' := [(0, .int p0), (1, .int p1)]) (st' := [.int (10 : Int32), .int p1, .int (irm p0 (10 : Int32)), .int (jabs ((p0 / (10 : Int32)) - (p1 / (10 : Int32))))]) (decB_ok (by decide +kernel)) rfl rfl ?_
  refine V_irem C (by decide +kernel) (by decide) ?_
  refine V_pb C hn [(.isub, 1)] (pc' := 21) (ls' := [(0, .int p0), (1, .int p1)]) (st' := [.int ((irm p0 (10 : Int32)) - (irm p1 (10 : Int32))), .int (jabs ((p0 / (10 : Int32)) - (p1 / (10 : Int32))))]) (decB_ok (by decide +kernel)) rfl rfl ?_
  refine V_abs C (by decide +kernel) mk_RX5_284 (Nat.le_of_ble_eq_true rfl) (Nat.le_of_ble_eq_true rfl) ?_
  refine V_pb C hn [(.iadd, 1)] (pc' := 25) (ls' := [(0, .int p0), (1, .int p1)]) (st' := [.int ((jabs ((p0 / (10 : Int32)) - (p1 / (10 : Int32)))) + (jabs ((irm p0 (10 : Int32)) - (irm p1 (10 : Int32)))))]) (decB_ok (by decide +kernel)) rfl rfl ?_
  have h := Option.some.inj h
  subst h
  exact V_iret C (by decide +kernel) rfl
set_option maxRecDepth 100000 in
set_option maxHeartbeats 400000 in
theorem cfX5_spread_L14 {E : VE} (C : Ctx E cX5_spread RX5 2 (some .int)) (hn : E.nL = 4) {a0 : Nat → Nat} {S0 : MT} {out : Int32} {k4 : Int32 → Int32 → Option (Int32)} (hk4 : ∀ (v1 : Int32) (v2 : Int32), k4 v1 v2 = some out → V E (QR E (some (.int out)) (wdM E.G a0 S0)) (wdM E.G a0 S0) 4 [(0, .ref (a0 0)), (1, .int v1), (2, .int v2)] []) : ∀ (n : Nat) (v1 : Int32) (v2 : Int32) (v3 : Int32), fX5_spread_L14 k4 S0 n v1 v2 v3 = some out → V E (QR E (some (.int out)) (wdM E.G a0 S0)) (wdM E.G a0 S0) 14 [(0, .ref (a0 0)), (1, .int v1), (2, .int v2), (3, .int v3)] [] := by
  intro n
  induction n with
  | zero =>
    intro v1 v2 v3 h
    cases h
  | succ n ih =>
    intro v1 v2 v3 h
    unfold fX5_spread_L14 at h
    refine V_pb C hn [(.iload_n 3, 1), (.iload_n 2, 1)] (pc' := 16) (ls' := [(0, .ref (a0 0)), (1, .int v1), (2, .int v2), (3, .int v3)]) (st' := [.int v2, .int v3]) (decB_ok (by decide +kernel)) rfl rfl ?_
    refine V_ic_ge C (off := 29) (tgt := 45) (by decide +kernel) (by decide) h (fun _ h => ?_) (fun _ h => ?_)
    · refine V_pb C hn [(.iinc 2 1, 3)] (pc' := 48) (ls' := [(0, .ref (a0 0)), (1, .int v1), (2, .int (v2 + (1 : Int32))), (3, .int v3)]) (st' := []) (decB_ok (by decide +kernel)) rfl rfl ?_
      refine V_goto C (off := -44) (tgt := 4) (by decide +kernel) (by decide) ?_
      refine V_sub (ls' := [(0, .ref (a0 0)), (1, .int v1), (2, .int (v2 + (1 : Int32)))]) rfl ?_
      exact hk4 _ _ h
    · refine V_pb C hn [(.iload_n 1, 1), (.aload_n 0, 1)] (pc' := 21) (ls' := [(0, .ref (a0 0)), (1, .int v1), (2, .int v2), (3, .int v3)]) (st' := [.ref (a0 0), .int v1]) (decB_ok (by decide +kernel)) rfl rfl ?_
      refine V_get C (v := .ref (a0 3)) (by decide +kernel) 0 4 fk_RX5_16 rfl rfl ?_
      refine V_pb C hn [(.iload_n 2, 1)] (pc' := 25) (ls' := [(0, .ref (a0 0)), (1, .int v1), (2, .int v2), (3, .int v3)]) (st' := [.int v2, .ref (a0 3), .int v1]) (decB_ok (by decide +kernel)) rfl rfl ?_
      refine V_iald C (f := (m_cell S0)) (by decide +kernel) 3 rfl h (fun h => ?_)
      refine V_pb C hn [(.aload_n 0, 1)] (pc' := 27) (ls' := [(0, .ref (a0 0)), (1, .int v1), (2, .int v2), (3, .int v3)]) (st' := [.ref (a0 0), .int ((m_cell S0) (ix v2)), .int v1]) (decB_ok (by decide +kernel)) rfl rfl ?_
      refine V_get C (v := .ref (a0 3)) (by decide +kernel) 0 4 fk_RX5_16 rfl rfl ?_
      refine V_pb C hn [(.iload_n 3, 1)] (pc' := 31) (ls' := [(0, .ref (a0 0)), (1, .int v1), (2, .int v2), (3, .int v3)]) (st' := [.int v3, .ref (a0 3), .int ((m_cell S0) (ix v2)), .int v1]) (decB_ok (by decide +kernel)) rfl rfl ?_
      refine V_iald C (f := (m_cell S0)) (by decide +kernel) 3 rfl h (fun h => ?_)
      obtain ⟨q1, h2, h⟩ := bnd h
      refine V_callSp C (As := [.int ((m_cell S0) (ix v2)), .int ((m_cell S0) (ix v3))]) (rest := [.int v1]) (by decide +kernel) ok_yX5_apart mk_RX5_289 (cfX5_apart (l := E.l) (G := E.G) h2) [] rfl rfl rfl rfl (Nat.le_of_ble_eq_true rfl) (Nat.le_of_ble_eq_true rfl) (Nat.le_of_ble_eq_true rfl) ?_
      show V E _ (wdM E.G a0 S0) 35 [(0, .ref (a0 0)), (1, .int v1), (2, .int v2), (3, .int v3)] [.int q1, .int v1]
      refine V_max C (by decide +kernel) mk_RX5_292 (Nat.le_of_ble_eq_true rfl) (Nat.le_of_ble_eq_true rfl) ?_
      refine V_pb C hn [(.istore_n 1, 1), (.iinc 3 1, 3)] (pc' := 42) (ls' := [(0, .ref (a0 0)), (1, .int (jmax v1 q1)), (2, .int v2), (3, .int (v3 + (1 : Int32)))]) (st' := []) (decB_ok (by decide +kernel)) rfl rfl ?_
      refine V_goto C (off := -28) (tgt := 14) (by decide +kernel) (by decide) ?_
      refine V_sub (ls' := [(0, .ref (a0 0)), (1, .int (jmax v1 q1)), (2, .int v2), (3, .int (v3 + (1 : Int32)))]) rfl ?_
      exact ih _ _ _ h
set_option maxRecDepth 100000 in
set_option maxHeartbeats 400000 in
theorem cfX5_spread_L4 {E : VE} (C : Ctx E cX5_spread RX5 2 (some .int)) (hn : E.nL = 4) {a0 : Nat → Nat} {S0 : MT} {out : Int32} : ∀ (n : Nat) (v1 : Int32) (v2 : Int32), fX5_spread_L4 S0 n v1 v2 = some out → V E (QR E (some (.int out)) (wdM E.G a0 S0)) (wdM E.G a0 S0) 4 [(0, .ref (a0 0)), (1, .int v1), (2, .int v2)] [] := by
  intro n
  induction n with
  | zero =>
    intro v1 v2 h
    cases h
  | succ n ih =>
    intro v1 v2 h
    unfold fX5_spread_L4 at h
    refine V_pb C hn [(.iload_n 2, 1), (.aload_n 0, 1)] (pc' := 6) (ls' := [(0, .ref (a0 0)), (1, .int v1), (2, .int v2)]) (st' := [.ref (a0 0), .int v2]) (decB_ok (by decide +kernel)) rfl rfl ?_
    refine V_get C (v := .int (m_motes S0)) (by decide +kernel) 0 1 fk_RX5_60 rfl rfl ?_
    refine V_ic_ge C (off := 42) (tgt := 51) (by decide +kernel) (by decide) h (fun _ h => ?_) (fun _ h => ?_)
    · refine V_pb C hn [(.iload_n 1, 1)] (pc' := 52) (ls' := [(0, .ref (a0 0)), (1, .int v1), (2, .int v2)]) (st' := [.int v1]) (decB_ok (by decide +kernel)) rfl rfl ?_
      have h := Option.some.inj h
      subst h
      exact V_iret C (by decide +kernel) rfl
    · refine V_pb C hn [(.iconst 0, 1), (.istore_n 3, 1)] (pc' := 14) (ls' := [(0, .ref (a0 0)), (1, .int v1), (2, .int v2), (3, .int (0 : Int32))]) (st' := []) (decB_ok (by decide +kernel)) rfl rfl ?_
      refine V_sub (ls' := [(0, .ref (a0 0)), (1, .int v1), (2, .int v2), (3, .int (0 : Int32))]) rfl ?_
      exact cfX5_spread_L14 C hn (k4 := (fun v1 v2 => fX5_spread_L4 S0 n v1 v2)) (fun v1 v2 h => ih v1 v2 h) FU _ _ _ h
set_option maxRecDepth 100000 in
set_option maxHeartbeats 400000 in
theorem cfX5_spread {l : Launch} {G : GG} (a0 : Nat → Nat) {S0 : MT} {out : Int32} (h : fX5_spread S0 = some out) : Con l G 2 yX5_spread cX5_spread 4 (some .int) [.ref (a0 0)] (wdM G a0 S0) (some (.int out)) (wdM G a0 S0) := by
  refine Con_of (by decide +kernel) (Nat.le_of_ble_eq_true rfl) (fun E hl hG hn C => ?_)
  subst hl
  subst hG
  have C : Ctx E cX5_spread RX5 2 (some .int) := C
  show V E _ _ 0 [(0, .ref (a0 0))] []
  unfold fX5_spread at h
  refine V_pb C hn [(.iconst 0, 1), (.istore_n 1, 1), (.iconst 0, 1), (.istore_n 2, 1)] (pc' := 4) (ls' := [(0, .ref (a0 0)), (1, .int (0 : Int32)), (2, .int (0 : Int32))]) (st' := []) (decB_ok (by decide +kernel)) rfl rfl ?_
  refine V_sub (ls' := [(0, .ref (a0 0)), (1, .int (0 : Int32)), (2, .int (0 : Int32))]) rfl ?_
  exact cfX5_spread_L4 C hn FU _ _ h
set_option maxRecDepth 100000 in
set_option maxHeartbeats 400000 in
theorem cfX5_sumOf_j38 {E : VE} (C : Ctx E cX5_sumOf RX5 0 (some .int)) (hn : E.nL = 4) {a0 : Nat → Nat} {p1 : Int32} {S0 : MT} {v3 : Int32} {s0 : Int32} {s1 : Int32} {out : Int32} {k4 : Int32 → Int32 → Option (Int32)} (hk4 : ∀ (v2 : Int32) (v3 : Int32), k4 v2 v3 = some out → V E (QR E (some (.int out)) (wdM E.G a0 S0)) (wdM E.G a0 S0) 4 [(0, .ref (a0 0)), (1, .int p1), (2, .int v2), (3, .int v3)] []) (h : fX5_sumOf_j38 k4 p1 S0 v3 s0 s1 = some out) : V E (QR E (some (.int out)) (wdM E.G a0 S0)) (wdM E.G a0 S0) 38 [(0, .ref (a0 0)), (1, .int p1), (3, .int v3)] [.int s0, .int s1] := by
  unfold fX5_sumOf_j38 at h
  refine V_pb C hn [(.iadd, 1), (.istore_n 2, 1), (.iinc 3 1, 3)] (pc' := 43) (ls' := [(0, .ref (a0 0)), (1, .int p1), (2, .int (s1 + s0)), (3, .int (v3 + (1 : Int32)))]) (st' := []) (decB_ok (by decide +kernel)) rfl rfl ?_
  refine V_goto C (off := -39) (tgt := 4) (by decide +kernel) (by decide) ?_
  refine V_sub (ls' := [(0, .ref (a0 0)), (1, .int p1), (2, .int (s1 + s0)), (3, .int (v3 + (1 : Int32)))]) rfl ?_
  exact hk4 _ _ h
set_option maxRecDepth 100000 in
set_option maxHeartbeats 400000 in
theorem cfX5_sumOf_L4 {E : VE} (C : Ctx E cX5_sumOf RX5 0 (some .int)) (hn : E.nL = 4) {a0 : Nat → Nat} {p1 : Int32} {S0 : MT} {out : Int32} : ∀ (n : Nat) (v2 : Int32) (v3 : Int32), fX5_sumOf_L4 p1 S0 n v2 v3 = some out → V E (QR E (some (.int out)) (wdM E.G a0 S0)) (wdM E.G a0 S0) 4 [(0, .ref (a0 0)), (1, .int p1), (2, .int v2), (3, .int v3)] [] := by
  intro n
  induction n with
  | zero =>
    intro v2 v3 h
    cases h
  | succ n ih =>
    intro v2 v3 h
    unfold fX5_sumOf_L4 at h
    refine V_pb C hn [(.iload_n 3, 1), (.aload_n 0, 1)] (pc' := 6) (ls' := [(0, .ref (a0 0)), (1, .int p1), (2, .int v2), (3, .int v3)]) (st' := [.ref (a0 0), .int v3]) (decB_ok (by decide +kernel)) rfl rfl ?_
    refine V_get C (v := .int (m_motes S0)) (by decide +kernel) 0 1 fk_RX5_60 rfl rfl ?_
    refine V_ic_ge C (off := 37) (tgt := 46) (by decide +kernel) (by decide) h (fun _ h => ?_) (fun _ h => ?_)
    · refine V_pb C hn [(.iload_n 2, 1)] (pc' := 47) (ls' := [(0, .ref (a0 0)), (1, .int p1), (2, .int v2), (3, .int v3)]) (st' := [.int v2]) (decB_ok (by decide +kernel)) rfl rfl ?_
      have h := Option.some.inj h
      subst h
      exact V_iret C (by decide +kernel) rfl
    · refine V_pb C hn [(.iload_n 2, 1), (.iload_n 1, 1)] (pc' := 14) (ls' := [(0, .ref (a0 0)), (1, .int p1), (2, .int v2), (3, .int v3)]) (st' := [.int p1, .int v2]) (decB_ok (by decide +kernel)) rfl rfl ?_
      refine V_if_ne C (off := 15) (tgt := 29) (by decide +kernel) (by decide) h (fun _ h => ?_) (fun _ h => ?_)
      · refine V_pb C hn [(.aload_n 0, 1)] (pc' := 18) (ls' := [(0, .ref (a0 0)), (1, .int p1), (2, .int v2), (3, .int v3)]) (st' := [.ref (a0 0), .int v2]) (decB_ok (by decide +kernel)) rfl rfl ?_
        refine V_get C (v := .ref (a0 3)) (by decide +kernel) 0 4 fk_RX5_16 rfl rfl ?_
        refine V_pb C hn [(.iload_n 3, 1)] (pc' := 22) (ls' := [(0, .ref (a0 0)), (1, .int p1), (2, .int v2), (3, .int v3)]) (st' := [.int v3, .ref (a0 3), .int v2]) (decB_ok (by decide +kernel)) rfl rfl ?_
        refine V_iald C (f := (m_cell S0)) (by decide +kernel) 3 rfl h (fun h => ?_)
        refine V_pb C hn [(.bipush 10, 2)] (pc' := 25) (ls' := [(0, .ref (a0 0)), (1, .int p1), (2, .int v2), (3, .int v3)]) (st' := [.int (10 : Int32), .int ((m_cell S0) (ix v3)), .int v2]) (decB_ok (by decide +kernel)) rfl rfl ?_
        refine V_idiv C (by decide +kernel) (by decide) ?_
        refine V_goto C (off := 12) (tgt := 38) (by decide +kernel) (by decide) ?_
        refine V_sub (ls' := [(0, .ref (a0 0)), (1, .int p1), (3, .int v3)]) rfl ?_
        exact cfX5_sumOf_j38 C hn (k4 := (fun v2 v3 => fX5_sumOf_L4 p1 S0 n v2 v3)) (fun v2 v3 h => ih v2 v3 h) h
      · refine V_pb C hn [(.aload_n 0, 1)] (pc' := 30) (ls' := [(0, .ref (a0 0)), (1, .int p1), (2, .int v2), (3, .int v3)]) (st' := [.ref (a0 0), .int v2]) (decB_ok (by decide +kernel)) rfl rfl ?_
        refine V_get C (v := .ref (a0 3)) (by decide +kernel) 0 4 fk_RX5_16 rfl rfl ?_
        refine V_pb C hn [(.iload_n 3, 1)] (pc' := 34) (ls' := [(0, .ref (a0 0)), (1, .int p1), (2, .int v2), (3, .int v3)]) (st' := [.int v3, .ref (a0 3), .int v2]) (decB_ok (by decide +kernel)) rfl rfl ?_
        refine V_iald C (f := (m_cell S0)) (by decide +kernel) 3 rfl h (fun h => ?_)
        refine V_pb C hn [(.bipush 10, 2)] (pc' := 37) (ls' := [(0, .ref (a0 0)), (1, .int p1), (2, .int v2), (3, .int v3)]) (st' := [.int (10 : Int32), .int ((m_cell S0) (ix v3)), .int v2]) (decB_ok (by decide +kernel)) rfl rfl ?_
        refine V_irem C (by decide +kernel) (by decide) ?_
        refine V_sub (ls' := [(0, .ref (a0 0)), (1, .int p1), (3, .int v3)]) rfl ?_
        exact cfX5_sumOf_j38 C hn (k4 := (fun v2 v3 => fX5_sumOf_L4 p1 S0 n v2 v3)) (fun v2 v3 h => ih v2 v3 h) h
set_option maxRecDepth 100000 in
set_option maxHeartbeats 400000 in
theorem cfX5_sumOf {l : Launch} {G : GG} (a0 : Nat → Nat) {p1 : Int32} {S0 : MT} {out : Int32} (h : fX5_sumOf p1 S0 = some out) : Con l G 0 yX5_sumOf cX5_sumOf 4 (some .int) [.ref (a0 0), .int p1] (wdM G a0 S0) (some (.int out)) (wdM G a0 S0) := by
  refine Con_of (by decide +kernel) (Nat.le_of_ble_eq_true rfl) (fun E hl hG hn C => ?_)
  subst hl
  subst hG
  have C : Ctx E cX5_sumOf RX5 0 (some .int) := C
  show V E _ _ 0 [(0, .ref (a0 0)), (1, .int p1)] []
  unfold fX5_sumOf at h
  refine V_pb C hn [(.iconst 0, 1), (.istore_n 2, 1), (.iconst 0, 1), (.istore_n 3, 1)] (pc' := 4) (ls' := [(0, .ref (a0 0)), (1, .int p1), (2, .int (0 : Int32)), (3, .int (0 : Int32))]) (st' := []) (decB_ok (by decide +kernel)) rfl rfl ?_
  refine V_sub (ls' := [(0, .ref (a0 0)), (1, .int p1), (2, .int (0 : Int32)), (3, .int (0 : Int32))]) rfl ?_
  exact cfX5_sumOf_L4 C hn FU _ _ h
set_option maxRecDepth 100000 in
set_option maxHeartbeats 400000 in
theorem cfX5_centre_j16 {E : VE} (C : Ctx E cX5_centre RX5 9 (some .int)) (hn : E.nL = 4) {a0 : Nat → Nat} {p1 : Int32} {p2 : Int32} {S0 : MT} {out : Int32 × MT} (h : fX5_centre_j16 p1 p2 S0 = some out) : V E (QR E (some (.int out.1)) (wdM E.G a0 out.2)) (wdM E.G a0 S0) 16 [(0, .ref (a0 0))] [] := by
  unfold fX5_centre_j16 at h
  refine V_pb C hn [(.aload_n 0, 1), (.bipush (-2), 2)] (pc' := 19) (ls' := [(0, .ref (a0 0))]) (st' := [.int (cI (-2)), .ref (a0 0)]) (decB_ok (by decide +kernel)) rfl rfl ?_
  obtain ⟨q3, h4, h⟩ := bnd h
  refine V_callV0 C (As := [.int (cI (-2))]) (rest := []) (by decide +kernel) ok_yX5_no mk_RX5_77 (cfX5_no (l := E.l) (G := E.G) a0 h4) (q0 := 0) rfl rfl rfl rfl rfl rfl (Nat.le_of_ble_eq_true rfl) (Nat.le_of_ble_eq_true rfl) (Nat.le_of_ble_eq_true rfl) ?_
  show V E _ (wdM E.G a0 q3.2) 22 [(0, .ref (a0 0))] [.int q3.1]
  have h := Option.some.inj h
  subst h
  exact V_iret C (by decide +kernel) rfl
set_option maxRecDepth 100000 in
set_option maxHeartbeats 400000 in
theorem cfX5_centre_j77 {E : VE} (C : Ctx E cX5_centre RX5 9 (some .int)) (hn : E.nL = 4) {a0 : Nat → Nat} {p1 : Int32} {p2 : Int32} {s0 : Int32} {S0 : MT} {out : Int32 × MT} (h : fX5_centre_j77 p1 p2 s0 S0 = some out) : V E (QR E (some (.int out.1)) (wdM E.G a0 out.2)) (wdM E.G a0 S0) 77 [(0, .ref (a0 0))] [.int s0] := by
  unfold fX5_centre_j77 at h
  refine V_pb C hn [(.istore_n 3, 1), (.aload_n 0, 1)] (pc' := 79) (ls' := [(0, .ref (a0 0)), (3, .int s0)]) (st' := [.ref (a0 0)]) (decB_ok (by decide +kernel)) rfl rfl ?_
  obtain ⟨q13, h14, h⟩ := bnd h
  refine V_callV0 C (As := []) (rest := []) (by decide +kernel) ok_yX5_ends mk_RX5_232 (cfX5_ends (l := E.l) (G := E.G) a0 h14) (q0 := 0) rfl rfl rfl rfl rfl rfl (Nat.le_of_ble_eq_true rfl) (Nat.le_of_ble_eq_true rfl) (Nat.le_of_ble_eq_true rfl) ?_
  show V E _ (wdM E.G a0 q13) 82 [(0, .ref (a0 0)), (3, .int s0)] []
  refine V_pb C hn [(.iload_n 3, 1)] (pc' := 83) (ls' := [(0, .ref (a0 0)), (3, .int s0)]) (st' := [.int s0]) (decB_ok (by decide +kernel)) rfl rfl ?_
  have h := Option.some.inj h
  subst h
  exact V_iret C (by decide +kernel) rfl
set_option maxRecDepth 100000 in
set_option maxHeartbeats 400000 in
theorem cfX5_centre {l : Launch} {G : GG} (a0 : Nat → Nat) {p1 : Int32} {p2 : Int32} {S0 : MT} {out : Int32 × MT} (h : fX5_centre p1 p2 S0 = some out) : Con l G 9 yX5_centre cX5_centre 4 (some .int) [.ref (a0 0), .int p1, .int p2] (wdM G a0 S0) (some (.int out.1)) (wdM G a0 out.2) := by
  refine Con_of (by decide +kernel) (Nat.le_of_ble_eq_true rfl) (fun E hl hG hn C => ?_)
  subst hl
  subst hG
  have C : Ctx E cX5_centre RX5 9 (some .int) := C
  show V E _ _ 0 [(0, .ref (a0 0)), (1, .int p1), (2, .int p2)] []
  unfold fX5_centre at h
  refine V_pb C hn [(.iload_n 1, 1)] (pc' := 1) (ls' := [(0, .ref (a0 0)), (1, .int p1), (2, .int p2)]) (st' := [.int p1]) (decB_ok (by decide +kernel)) rfl rfl ?_
  obtain ⟨q1, h2, h⟩ := bnd h
  refine V_callSp C (As := [.int p1]) (rest := []) (by decide +kernel) ok_yX5_isTime mk_RX5_241 (cfX5_isTime (l := E.l) (G := E.G) h2) [] rfl rfl rfl rfl (Nat.le_of_ble_eq_true rfl) (Nat.le_of_ble_eq_true rfl) (Nat.le_of_ble_eq_true rfl) ?_
  show V E _ (wdM E.G a0 S0) 4 [(0, .ref (a0 0)), (1, .int p1), (2, .int p2)] [.int q1]
  refine V_if_eq C (off := 12) (tgt := 16) (by decide +kernel) (by decide) h (fun _ h => ?_) (fun _ h => ?_)
  · refine V_sub (ls' := [(0, .ref (a0 0))]) rfl ?_
    exact cfX5_centre_j16 C hn h
  · refine V_pb C hn [(.iload_n 2, 1), (.iconst 0, 1), (.iconst 2, 1)] (pc' := 10) (ls' := [(0, .ref (a0 0)), (1, .int p1), (2, .int p2)]) (st' := [.int (2 : Int32), .int (0 : Int32), .int p2]) (decB_ok (by decide +kernel)) rfl rfl ?_
    obtain ⟨q5, h6, h⟩ := bnd h
    refine V_callSp C (As := [.int p2, .int (0 : Int32), .int (2 : Int32)]) (rest := []) (by decide +kernel) ok_yX5_within mk_RX5_63 (cfX5_within (l := E.l) (G := E.G) h6) [] rfl rfl rfl rfl (Nat.le_of_ble_eq_true rfl) (Nat.le_of_ble_eq_true rfl) (Nat.le_of_ble_eq_true rfl) ?_
    show V E _ (wdM E.G a0 S0) 13 [(0, .ref (a0 0)), (1, .int p1), (2, .int p2)] [.int q5]
    refine V_if_ne C (off := 10) (tgt := 23) (by decide +kernel) (by decide) h (fun _ h => ?_) (fun _ h => ?_)
    · refine V_sub (ls' := [(0, .ref (a0 0))]) rfl ?_
      exact cfX5_centre_j16 C hn h
    · refine V_pb C hn [(.aload_n 0, 1)] (pc' := 24) (ls' := [(0, .ref (a0 0)), (1, .int p1), (2, .int p2)]) (st' := [.ref (a0 0)]) (decB_ok (by decide +kernel)) rfl rfl ?_
      refine V_get C (v := .int (m_motes S0)) (by decide +kernel) 0 1 fk_RX5_60 rfl rfl ?_
      refine V_if_ne C (off := 19) (tgt := 46) (by decide +kernel) (by decide) h (fun _ h => ?_) (fun _ h => ?_)
      · refine V_pb C hn [(.iload_n 2, 1), (.iconst 2, 1)] (pc' := 32) (ls' := [(0, .ref (a0 0)), (1, .int p1), (2, .int p2)]) (st' := [.int (2 : Int32), .int p2]) (decB_ok (by decide +kernel)) rfl rfl ?_
        refine V_ic_ne C (off := 7) (tgt := 39) (by decide +kernel) (by decide) h (fun _ h => ?_) (fun _ h => ?_)
        · refine V_pb C hn [(.iconst 0, 1)] (pc' := 36) (ls' := [(0, .ref (a0 0)), (1, .int p1), (2, .int p2)]) (st' := [.int (0 : Int32)]) (decB_ok (by decide +kernel)) rfl rfl ?_
          refine V_goto C (off := 9) (tgt := 45) (by decide +kernel) (by decide) ?_
          have h := Option.some.inj h
          subst h
          exact V_iret C (by decide +kernel) rfl
        · refine V_pb C hn [(.aload_n 0, 1), (.bipush (-5), 2)] (pc' := 42) (ls' := [(0, .ref (a0 0)), (1, .int p1), (2, .int p2)]) (st' := [.int (cI (-5)), .ref (a0 0)]) (decB_ok (by decide +kernel)) rfl rfl ?_
          obtain ⟨q7, h8, h⟩ := bnd h
          refine V_callV0 C (As := [.int (cI (-5))]) (rest := []) (by decide +kernel) ok_yX5_no mk_RX5_77 (cfX5_no (l := E.l) (G := E.G) a0 h8) (q0 := 0) rfl rfl rfl rfl rfl rfl (Nat.le_of_ble_eq_true rfl) (Nat.le_of_ble_eq_true rfl) (Nat.le_of_ble_eq_true rfl) ?_
          show V E _ (wdM E.G a0 q7.2) 45 [(0, .ref (a0 0)), (1, .int p1), (2, .int p2)] [.int q7.1]
          have h := Option.some.inj h
          subst h
          exact V_iret C (by decide +kernel) rfl
      · refine V_pb C hn [(.aload_n 0, 1), (.iload_n 1, 1)] (pc' := 48) (ls' := [(0, .ref (a0 0)), (1, .int p1), (2, .int p2)]) (st' := [.int p1, .ref (a0 0)]) (decB_ok (by decide +kernel)) rfl rfl ?_
        obtain ⟨q9, h10, h⟩ := bnd h
        refine V_callV0 C (As := [.int p1]) (rest := []) (by decide +kernel) ok_yX5_goesOn mk_RX5_228 (cfX5_goesOn (l := E.l) (G := E.G) a0 h10) (q0 := 0) rfl rfl rfl rfl rfl rfl (Nat.le_of_ble_eq_true rfl) (Nat.le_of_ble_eq_true rfl) (Nat.le_of_ble_eq_true rfl) ?_
        show V E _ (wdM E.G a0 q9) 51 [(0, .ref (a0 0)), (1, .int p1), (2, .int p2)] []
        refine V_pb C hn [(.iload_n 2, 1), (.iconst 2, 1)] (pc' := 53) (ls' := [(0, .ref (a0 0)), (1, .int p1), (2, .int p2)]) (st' := [.int (2 : Int32), .int p2]) (decB_ok (by decide +kernel)) rfl rfl ?_
        refine V_ic_ne C (off := 10) (tgt := 63) (by decide +kernel) (by decide) h (fun _ h => ?_) (fun _ h => ?_)
        · refine V_pb C hn [(.aload_n 0, 1)] (pc' := 57) (ls' := [(0, .ref (a0 0)), (1, .int p1), (2, .int p2)]) (st' := [.ref (a0 0)]) (decB_ok (by decide +kernel)) rfl rfl ?_
          obtain ⟨q11, h12, h⟩ := bnd h
          refine V_callV0 C (As := []) (rest := []) (by decide +kernel) ok_yX5_spread mk_RX5_295 (cfX5_spread (l := E.l) (G := E.G) a0 h12) (q0 := 0) rfl rfl rfl rfl rfl rfl (Nat.le_of_ble_eq_true rfl) (Nat.le_of_ble_eq_true rfl) (Nat.le_of_ble_eq_true rfl) ?_
          show V E _ (wdM E.G a0 q9) 60 [(0, .ref (a0 0)), (1, .int p1), (2, .int p2)] [.int q11]
          refine V_goto C (off := 17) (tgt := 77) (by decide +kernel) (by decide) ?_
          refine V_sub (ls' := [(0, .ref (a0 0))]) rfl ?_
          exact cfX5_centre_j77 C hn h
        · refine V_pb C hn [(.sipush 1000, 3), (.aload_n 0, 1), (.iload_n 2, 1)] (pc' := 68) (ls' := [(0, .ref (a0 0)), (1, .int p1), (2, .int p2)]) (st' := [.int p2, .ref (a0 0), .int (1000 : Int32)]) (decB_ok (by decide +kernel)) rfl rfl ?_
          obtain ⟨q15, h16, h⟩ := bnd h
          refine V_callV0 C (As := [.int p2]) (rest := [.int (1000 : Int32)]) (by decide +kernel) ok_yX5_sumOf mk_RX5_298 (cfX5_sumOf (l := E.l) (G := E.G) a0 h16) (q0 := 0) rfl rfl rfl rfl rfl rfl (Nat.le_of_ble_eq_true rfl) (Nat.le_of_ble_eq_true rfl) (Nat.le_of_ble_eq_true rfl) ?_
          show V E _ (wdM E.G a0 q9) 71 [(0, .ref (a0 0)), (1, .int p1), (2, .int p2)] [.int q15, .int (1000 : Int32)]
          refine V_pb C hn [(.imul, 1), (.aload_n 0, 1)] (pc' := 73) (ls' := [(0, .ref (a0 0)), (1, .int p1), (2, .int p2)]) (st' := [.ref (a0 0), .int ((1000 : Int32) * q15)]) (decB_ok (by decide +kernel)) rfl rfl ?_
          refine V_get C (v := .int (m_motes q9)) (by decide +kernel) 0 1 fk_RX5_60 rfl rfl ?_
          obtain ⟨hd17, h⟩ := dv_some h
          refine V_idiv C (by decide +kernel) hd17 ?_
          refine V_sub (ls' := [(0, .ref (a0 0))]) rfl ?_
          exact cfX5_centre_j77 C hn h
set_option maxRecDepth 100000 in
set_option maxHeartbeats 400000 in
theorem cfX5_turns_j84 {E : VE} (C : Ctx E cX5_turns RX5 10 (some .int)) (hn : E.nL = 8) {a0 : Nat → Nat} {p1 : Int32} {p2 : Int32} {v3 : Int32} {v4 : Int32} {v5 : Int32} {v6 : Int32} {S0 : MT} {out : Int32 × MT} {k14 : Int32 → Int32 → Int32 → Int32 → MT → Option (Int32 × MT)} (hk14 : ∀ (v3 : Int32) (v4 : Int32) (v5 : Int32) (v6 : Int32) (S0 : MT), k14 v3 v4 v5 v6 S0 = some out → V E (QR E (some (.int out.1)) (wdM E.G a0 out.2)) (wdM E.G a0 S0) 14 [(0, .ref (a0 0)), (1, .int p1), (2, .int p2), (3, .int v3), (4, .int v4), (5, .int v5), (6, .int v6)] []) (h : fX5_turns_j84 k14 p1 p2 v3 v4 v5 v6 S0 = some out) : V E (QR E (some (.int out.1)) (wdM E.G a0 out.2)) (wdM E.G a0 S0) 84 [(0, .ref (a0 0)), (1, .int p1), (2, .int p2), (3, .int v3), (4, .int v4), (5, .int v5), (6, .int v6)] [] := by
  unfold fX5_turns_j84 at h
  refine V_pb C hn [(.iinc 6 1, 3)] (pc' := 87) (ls' := [(0, .ref (a0 0)), (1, .int p1), (2, .int p2), (3, .int v3), (4, .int v4), (5, .int v5), (6, .int (v6 + (1 : Int32)))]) (st' := []) (decB_ok (by decide +kernel)) rfl rfl ?_
  refine V_goto C (off := -73) (tgt := 14) (by decide +kernel) (by decide) ?_
  refine V_sub (ls' := [(0, .ref (a0 0)), (1, .int p1), (2, .int p2), (3, .int v3), (4, .int v4), (5, .int v5), (6, .int (v6 + (1 : Int32)))]) rfl ?_
  exact hk14 _ _ _ _ _ h
set_option maxRecDepth 100000 in
set_option maxHeartbeats 400000 in
theorem cfX5_turns_j76 {E : VE} (C : Ctx E cX5_turns RX5 10 (some .int)) (hn : E.nL = 8) {a0 : Nat → Nat} {p1 : Int32} {p2 : Int32} {v3 : Int32} {v6 : Int32} {v7 : Int32} {S0 : MT} {out : Int32 × MT} {k14 : Int32 → Int32 → Int32 → Int32 → MT → Option (Int32 × MT)} (hk14 : ∀ (v3 : Int32) (v4 : Int32) (v5 : Int32) (v6 : Int32) (S0 : MT), k14 v3 v4 v5 v6 S0 = some out → V E (QR E (some (.int out.1)) (wdM E.G a0 out.2)) (wdM E.G a0 S0) 14 [(0, .ref (a0 0)), (1, .int p1), (2, .int p2), (3, .int v3), (4, .int v4), (5, .int v5), (6, .int v6)] []) (h : fX5_turns_j76 k14 p1 p2 v3 v6 v7 S0 = some out) : V E (QR E (some (.int out.1)) (wdM E.G a0 out.2)) (wdM E.G a0 S0) 76 [(0, .ref (a0 0)), (1, .int p1), (2, .int p2), (3, .int v3), (6, .int v6), (7, .int v7)] [] := by
  unfold fX5_turns_j76 at h
  refine V_pb C hn [(.iload 7, 2), (.istore 5, 2), (.iload 6, 2), (.istore 4, 2)] (pc' := 84) (ls' := [(0, .ref (a0 0)), (1, .int p1), (2, .int p2), (3, .int v3), (4, .int v6), (5, .int v7), (6, .int v6), (7, .int v7)]) (st' := []) (decB_ok (by decide +kernel)) rfl rfl ?_
  refine V_sub (ls' := [(0, .ref (a0 0)), (1, .int p1), (2, .int p2), (3, .int v3), (4, .int v6), (5, .int v7), (6, .int v6)]) rfl ?_
  exact cfX5_turns_j84 C hn (k14 := k14) (hk14) h
set_option maxRecDepth 100000 in
set_option maxHeartbeats 400000 in
theorem cfX5_turns_j37 {E : VE} (C : Ctx E cX5_turns RX5 10 (some .int)) (hn : E.nL = 8) {a0 : Nat → Nat} {p1 : Int32} {p2 : Int32} {v3 : Int32} {v4 : Int32} {v5 : Int32} {v6 : Int32} {s0 : Int32} {S0 : MT} {out : Int32 × MT} {k14 : Int32 → Int32 → Int32 → Int32 → MT → Option (Int32 × MT)} (hk14 : ∀ (v3 : Int32) (v4 : Int32) (v5 : Int32) (v6 : Int32) (S0 : MT), k14 v3 v4 v5 v6 S0 = some out → V E (QR E (some (.int out.1)) (wdM E.G a0 out.2)) (wdM E.G a0 S0) 14 [(0, .ref (a0 0)), (1, .int p1), (2, .int p2), (3, .int v3), (4, .int v4), (5, .int v5), (6, .int v6)] []) (h : fX5_turns_j37 k14 p1 p2 v3 v4 v5 v6 s0 S0 = some out) : V E (QR E (some (.int out.1)) (wdM E.G a0 out.2)) (wdM E.G a0 S0) 37 [(0, .ref (a0 0)), (1, .int p1), (2, .int p2), (3, .int v3), (4, .int v4), (5, .int v5), (6, .int v6)] [.int s0, .ref (a0 0)] := by
  unfold fX5_turns_j37 at h
  obtain ⟨w3, e4, h⟩ := bnd h
  refine V_put C (v := .int s0) (ws' := wdM E.G a0 w3) (by decide +kernel) 0 5 pk_RX5_109 rfl rfl rfl (Nat.le_of_ble_eq_true rfl) (by cases e4; rfl) ?_
  refine V_pb C hn [(.aload_n 0, 1), (.iload_n 1, 1)] (pc' := 42) (ls' := [(0, .ref (a0 0)), (1, .int p1), (2, .int p2), (3, .int v3), (4, .int v4), (5, .int v5), (6, .int v6)]) (st' := [.int p1, .ref (a0 0)]) (decB_ok (by decide +kernel)) rfl rfl ?_
  obtain ⟨q5, h6, h⟩ := bnd h
  refine V_callV0 C (As := [.int p1]) (rest := []) (by decide +kernel) ok_yX5_votesBehind mk_RX5_235 (cfX5_votesBehind (l := E.l) (G := E.G) a0 h6) (q0 := 0) rfl rfl rfl rfl rfl rfl (Nat.le_of_ble_eq_true rfl) (Nat.le_of_ble_eq_true rfl) (Nat.le_of_ble_eq_true rfl) ?_
  show V E _ (wdM E.G a0 q5.2) 45 [(0, .ref (a0 0)), (1, .int p1), (2, .int p2), (3, .int v3), (4, .int v4), (5, .int v5), (6, .int v6)] [.int q5.1]
  refine V_pb C hn [(.istore 7, 2), (.iload 6, 2)] (pc' := 49) (ls' := [(0, .ref (a0 0)), (1, .int p1), (2, .int p2), (3, .int v3), (4, .int v4), (5, .int v5), (6, .int v6), (7, .int q5.1)]) (st' := [.int v6]) (decB_ok (by decide +kernel)) rfl rfl ?_
  refine V_if_le C (off := 27) (tgt := 76) (by decide +kernel) (by decide) h (fun _ h => ?_) (fun _ h => ?_)
  · refine V_sub (ls' := [(0, .ref (a0 0)), (1, .int p1), (2, .int p2), (3, .int v3), (6, .int v6), (7, .int q5.1)]) rfl ?_
    exact cfX5_turns_j76 C hn (k14 := k14) (hk14) h
  · refine V_pb C hn [(.iload_n 2, 1)] (pc' := 53) (ls' := [(0, .ref (a0 0)), (1, .int p1), (2, .int p2), (3, .int v3), (4, .int v4), (5, .int v5), (6, .int v6), (7, .int q5.1)]) (st' := [.int p2]) (decB_ok (by decide +kernel)) rfl rfl ?_
    refine V_if_eq C (off := 13) (tgt := 66) (by decide +kernel) (by decide) h (fun _ h => ?_) (fun _ h => ?_)
    · refine V_pb C hn [(.iload 7, 2), (.iload 5, 2)] (pc' := 70) (ls' := [(0, .ref (a0 0)), (1, .int p1), (2, .int p2), (3, .int v3), (4, .int v4), (5, .int v5), (6, .int v6), (7, .int q5.1)]) (st' := [.int v5, .int q5.1]) (decB_ok (by decide +kernel)) rfl rfl ?_
      refine V_ic_lt C (off := 6) (tgt := 76) (by decide +kernel) (by decide) h (fun _ h => ?_) (fun _ h => ?_)
      · refine V_sub (ls' := [(0, .ref (a0 0)), (1, .int p1), (2, .int p2), (3, .int v3), (6, .int v6), (7, .int q5.1)]) rfl ?_
        exact cfX5_turns_j76 C hn (k14 := k14) (hk14) h
      · refine V_goto C (off := 11) (tgt := 84) (by decide +kernel) (by decide) ?_
        refine V_sub (ls' := [(0, .ref (a0 0)), (1, .int p1), (2, .int p2), (3, .int v3), (4, .int v4), (5, .int v5), (6, .int v6)]) rfl ?_
        exact cfX5_turns_j84 C hn (k14 := k14) (hk14) h
    · refine V_pb C hn [(.iload 7, 2), (.iload 5, 2)] (pc' := 60) (ls' := [(0, .ref (a0 0)), (1, .int p1), (2, .int p2), (3, .int v3), (4, .int v4), (5, .int v5), (6, .int v6), (7, .int q5.1)]) (st' := [.int v5, .int q5.1]) (decB_ok (by decide +kernel)) rfl rfl ?_
      refine V_ic_gt C (off := 16) (tgt := 76) (by decide +kernel) (by decide) h (fun _ h => ?_) (fun _ h => ?_)
      · refine V_sub (ls' := [(0, .ref (a0 0)), (1, .int p1), (2, .int p2), (3, .int v3), (6, .int v6), (7, .int q5.1)]) rfl ?_
        exact cfX5_turns_j76 C hn (k14 := k14) (hk14) h
      · refine V_goto C (off := 21) (tgt := 84) (by decide +kernel) (by decide) ?_
        refine V_sub (ls' := [(0, .ref (a0 0)), (1, .int p1), (2, .int p2), (3, .int v3), (4, .int v4), (5, .int v5), (6, .int v6)]) rfl ?_
        exact cfX5_turns_j84 C hn (k14 := k14) (hk14) h
set_option maxRecDepth 100000 in
set_option maxHeartbeats 400000 in
theorem cfX5_turns_L14 {E : VE} (C : Ctx E cX5_turns RX5 10 (some .int)) (hn : E.nL = 8) {a0 : Nat → Nat} {p1 : Int32} {p2 : Int32} {out : Int32 × MT} : ∀ (n : Nat) (v3 : Int32) (v4 : Int32) (v5 : Int32) (v6 : Int32) (S0 : MT), fX5_turns_L14 p1 p2 n v3 v4 v5 v6 S0 = some out → V E (QR E (some (.int out.1)) (wdM E.G a0 out.2)) (wdM E.G a0 S0) 14 [(0, .ref (a0 0)), (1, .int p1), (2, .int p2), (3, .int v3), (4, .int v4), (5, .int v5), (6, .int v6)] [] := by
  intro n
  induction n with
  | zero =>
    intro v3 v4 v5 v6 S0 h
    cases h
  | succ n ih =>
    intro v3 v4 v5 v6 S0 h
    unfold fX5_turns_L14 at h
    refine V_pb C hn [(.iload 6, 2), (.iconst 5, 1)] (pc' := 17) (ls' := [(0, .ref (a0 0)), (1, .int p1), (2, .int p2), (3, .int v3), (4, .int v4), (5, .int v5), (6, .int v6)]) (st' := [.int (5 : Int32), .int v6]) (decB_ok (by decide +kernel)) rfl rfl ?_
    refine V_ic_ge C (off := 73) (tgt := 90) (by decide +kernel) (by decide) h (fun _ h => ?_) (fun _ h => ?_)
    · refine V_pb C hn [(.aload_n 0, 1), (.iload_n 3, 1)] (pc' := 92) (ls' := [(0, .ref (a0 0)), (1, .int p1), (2, .int p2), (3, .int v3), (4, .int v4), (5, .int v5), (6, .int v6)]) (st' := [.int v3, .ref (a0 0)]) (decB_ok (by decide +kernel)) rfl rfl ?_
      obtain ⟨w1, e2, h⟩ := bnd h
      refine V_put C (v := .int v3) (ws' := wdM E.G a0 w1) (by decide +kernel) 0 5 pk_RX5_109 rfl rfl rfl (Nat.le_of_ble_eq_true rfl) (by cases e2; rfl) ?_
      refine V_pb C hn [(.iload 4, 2)] (pc' := 97) (ls' := [(0, .ref (a0 0)), (1, .int p1), (2, .int p2), (3, .int v3), (4, .int v4), (5, .int v5), (6, .int v6)]) (st' := [.int v4]) (decB_ok (by decide +kernel)) rfl rfl ?_
      have h := Option.some.inj h
      subst h
      exact V_iret C (by decide +kernel) rfl
    · refine V_pb C hn [(.aload_n 0, 1), (.iload 6, 2), (.iconst 4, 1)] (pc' := 24) (ls' := [(0, .ref (a0 0)), (1, .int p1), (2, .int p2), (3, .int v3), (4, .int v4), (5, .int v5), (6, .int v6)]) (st' := [.int (4 : Int32), .int v6, .ref (a0 0)]) (decB_ok (by decide +kernel)) rfl rfl ?_
      refine V_ic_ge C (off := 12) (tgt := 36) (by decide +kernel) (by decide) h (fun _ h => ?_) (fun _ h => ?_)
      · refine V_pb C hn [(.iload_n 3, 1)] (pc' := 37) (ls' := [(0, .ref (a0 0)), (1, .int p1), (2, .int p2), (3, .int v3), (4, .int v4), (5, .int v5), (6, .int v6)]) (st' := [.int v3, .ref (a0 0)]) (decB_ok (by decide +kernel)) rfl rfl ?_
        refine V_sub (ls' := [(0, .ref (a0 0)), (1, .int p1), (2, .int p2), (3, .int v3), (4, .int v4), (5, .int v5), (6, .int v6)]) rfl ?_
        exact cfX5_turns_j37 C hn (k14 := (fun v3 v4 v5 v6 S0 => fX5_turns_L14 p1 p2 n v3 v4 v5 v6 S0)) (fun v3 v4 v5 v6 S0 h => ih v3 v4 v5 v6 S0 h) h
      · refine V_pb C hn [(.iload_n 3, 1), (.iconst 1, 1), (.iload 6, 2), (.ishl, 1), (.ixor, 1)] (pc' := 33) (ls' := [(0, .ref (a0 0)), (1, .int p1), (2, .int p2), (3, .int v3), (4, .int v4), (5, .int v5), (6, .int v6)]) (st' := [.int (v3 ^^^ (jshl (1 : Int32) v6)), .ref (a0 0)]) (decB_ok (by decide +kernel)) rfl rfl ?_
        refine V_goto C (off := 4) (tgt := 37) (by decide +kernel) (by decide) ?_
        refine V_sub (ls' := [(0, .ref (a0 0)), (1, .int p1), (2, .int p2), (3, .int v3), (4, .int v4), (5, .int v5), (6, .int v6)]) rfl ?_
        exact cfX5_turns_j37 C hn (k14 := (fun v3 v4 v5 v6 S0 => fX5_turns_L14 p1 p2 n v3 v4 v5 v6 S0)) (fun v3 v4 v5 v6 S0 h => ih v3 v4 v5 v6 S0 h) h
set_option maxRecDepth 100000 in
set_option maxHeartbeats 400000 in
theorem cfX5_turns {l : Launch} {G : GG} (a0 : Nat → Nat) {p1 : Int32} {p2 : Int32} {S0 : MT} {out : Int32 × MT} (h : fX5_turns p1 p2 S0 = some out) : Con l G 10 yX5_turns cX5_turns 8 (some .int) [.ref (a0 0), .int p1, .int p2] (wdM G a0 S0) (some (.int out.1)) (wdM G a0 out.2) := by
  refine Con_of (by decide +kernel) (Nat.le_of_ble_eq_true rfl) (fun E hl hG hn C => ?_)
  subst hl
  subst hG
  have C : Ctx E cX5_turns RX5 10 (some .int) := C
  show V E _ _ 0 [(0, .ref (a0 0)), (1, .int p1), (2, .int p2)] []
  unfold fX5_turns at h
  refine V_pb C hn [(.aload_n 0, 1)] (pc' := 1) (ls' := [(0, .ref (a0 0)), (1, .int p1), (2, .int p2)]) (st' := [.ref (a0 0)]) (decB_ok (by decide +kernel)) rfl rfl ?_
  refine V_get C (v := .int (m_doors S0)) (by decide +kernel) 0 5 fk_RX5_109 rfl rfl ?_
  refine V_pb C hn [(.istore_n 3, 1), (.iconst 0, 1), (.istore 4, 2), (.iconst 0, 1), (.istore 5, 2), (.iconst 0, 1), (.istore 6, 2)] (pc' := 14) (ls' := [(0, .ref (a0 0)), (1, .int p1), (2, .int p2), (3, .int (m_doors S0)), (4, .int (0 : Int32)), (5, .int (0 : Int32)), (6, .int (0 : Int32))]) (st' := []) (decB_ok (by decide +kernel)) rfl rfl ?_
  refine V_sub (ls' := [(0, .ref (a0 0)), (1, .int p1), (2, .int p2), (3, .int (m_doors S0)), (4, .int (0 : Int32)), (5, .int (0 : Int32)), (6, .int (0 : Int32))]) rfl ?_
  exact cfX5_turns_L14 C hn FU _ _ _ _ _ h
set_option maxRecDepth 100000 in
set_option maxHeartbeats 400000 in
theorem cfX5_turnedVotes_j20 {E : VE} (C : Ctx E cX5_turnedVotes RX5 10 (some .int)) (hn : E.nL = 5) {a0 : Nat → Nat} {p1 : Int32} {p2 : Int32} {v3 : Int32} {s0 : Int32} {S0 : MT} {out : Int32 × MT} (h : fX5_turnedVotes_j20 p1 p2 v3 s0 S0 = some out) : V E (QR E (some (.int out.1)) (wdM E.G a0 out.2)) (wdM E.G a0 S0) 20 [(0, .ref (a0 0)), (1, .int p1), (3, .int v3)] [.int s0, .ref (a0 0)] := by
  unfold fX5_turnedVotes_j20 at h
  obtain ⟨w1, e2, h⟩ := bnd h
  refine V_put C (v := .int s0) (ws' := wdM E.G a0 w1) (by decide +kernel) 0 5 pk_RX5_109 rfl rfl rfl (Nat.le_of_ble_eq_true rfl) (by cases e2; rfl) ?_
  refine V_pb C hn [(.aload_n 0, 1), (.iload_n 1, 1)] (pc' := 25) (ls' := [(0, .ref (a0 0)), (1, .int p1), (3, .int v3)]) (st' := [.int p1, .ref (a0 0)]) (decB_ok (by decide +kernel)) rfl rfl ?_
  obtain ⟨q3, h4, h⟩ := bnd h
  refine V_callV0 C (As := [.int p1]) (rest := []) (by decide +kernel) ok_yX5_votesBehind mk_RX5_235 (cfX5_votesBehind (l := E.l) (G := E.G) a0 h4) (q0 := 0) rfl rfl rfl rfl rfl rfl (Nat.le_of_ble_eq_true rfl) (Nat.le_of_ble_eq_true rfl) (Nat.le_of_ble_eq_true rfl) ?_
  show V E _ (wdM E.G a0 q3.2) 28 [(0, .ref (a0 0)), (1, .int p1), (3, .int v3)] [.int q3.1]
  refine V_pb C hn [(.istore 4, 2), (.aload_n 0, 1), (.iload_n 3, 1)] (pc' := 32) (ls' := [(0, .ref (a0 0)), (1, .int p1), (3, .int v3), (4, .int q3.1)]) (st' := [.int v3, .ref (a0 0)]) (decB_ok (by decide +kernel)) rfl rfl ?_
  obtain ⟨w5, e6, h⟩ := bnd h
  refine V_put C (v := .int v3) (ws' := wdM E.G a0 w5) (by decide +kernel) 0 5 pk_RX5_109 rfl rfl rfl (Nat.le_of_ble_eq_true rfl) (by cases e6; rfl) ?_
  refine V_pb C hn [(.iload 4, 2)] (pc' := 37) (ls' := [(0, .ref (a0 0)), (1, .int p1), (3, .int v3), (4, .int q3.1)]) (st' := [.int q3.1]) (decB_ok (by decide +kernel)) rfl rfl ?_
  have h := Option.some.inj h
  subst h
  exact V_iret C (by decide +kernel) rfl
set_option maxRecDepth 100000 in
set_option maxHeartbeats 400000 in
theorem cfX5_turnedVotes {l : Launch} {G : GG} (a0 : Nat → Nat) {p1 : Int32} {p2 : Int32} {S0 : MT} {out : Int32 × MT} (h : fX5_turnedVotes p1 p2 S0 = some out) : Con l G 10 yX5_turnedVotes cX5_turnedVotes 5 (some .int) [.ref (a0 0), .int p1, .int p2] (wdM G a0 S0) (some (.int out.1)) (wdM G a0 out.2) := by
  refine Con_of (by decide +kernel) (Nat.le_of_ble_eq_true rfl) (fun E hl hG hn C => ?_)
  subst hl
  subst hG
  have C : Ctx E cX5_turnedVotes RX5 10 (some .int) := C
  show V E _ _ 0 [(0, .ref (a0 0)), (1, .int p1), (2, .int p2)] []
  unfold fX5_turnedVotes at h
  refine V_pb C hn [(.aload_n 0, 1)] (pc' := 1) (ls' := [(0, .ref (a0 0)), (1, .int p1), (2, .int p2)]) (st' := [.ref (a0 0)]) (decB_ok (by decide +kernel)) rfl rfl ?_
  refine V_get C (v := .int (m_doors S0)) (by decide +kernel) 0 5 fk_RX5_109 rfl rfl ?_
  refine V_pb C hn [(.istore_n 3, 1), (.aload_n 0, 1), (.iload_n 2, 1), (.iconst 4, 1)] (pc' := 8) (ls' := [(0, .ref (a0 0)), (1, .int p1), (2, .int p2), (3, .int (m_doors S0))]) (st' := [.int (4 : Int32), .int p2, .ref (a0 0)]) (decB_ok (by decide +kernel)) rfl rfl ?_
  refine V_ic_ge C (off := 11) (tgt := 19) (by decide +kernel) (by decide) h (fun _ h => ?_) (fun _ h => ?_)
  · refine V_pb C hn [(.iload_n 3, 1)] (pc' := 20) (ls' := [(0, .ref (a0 0)), (1, .int p1), (2, .int p2), (3, .int (m_doors S0))]) (st' := [.int (m_doors S0), .ref (a0 0)]) (decB_ok (by decide +kernel)) rfl rfl ?_
    refine V_sub (ls' := [(0, .ref (a0 0)), (1, .int p1), (3, .int (m_doors S0))]) rfl ?_
    exact cfX5_turnedVotes_j20 C hn h
  · refine V_pb C hn [(.iload_n 3, 1), (.iconst 1, 1), (.iload_n 2, 1), (.ishl, 1), (.ixor, 1)] (pc' := 16) (ls' := [(0, .ref (a0 0)), (1, .int p1), (2, .int p2), (3, .int (m_doors S0))]) (st' := [.int ((m_doors S0) ^^^ (jshl (1 : Int32) p2)), .ref (a0 0)]) (decB_ok (by decide +kernel)) rfl rfl ?_
    refine V_goto C (off := 4) (tgt := 20) (by decide +kernel) (by decide) ?_
    refine V_sub (ls' := [(0, .ref (a0 0)), (1, .int p1), (3, .int (m_doors S0))]) rfl ?_
    exact cfX5_turnedVotes_j20 C hn h
set_option maxRecDepth 100000 in
set_option maxHeartbeats 400000 in
theorem cfX5_whips_j16 {E : VE} (C : Ctx E cX5_whips RX5 11 (some .int)) (hn : E.nL = 8) {a0 : Nat → Nat} {p1 : Int32} {p2 : Int32} {S0 : MT} {out : Int32 × MT} (h : fX5_whips_j16 p1 p2 S0 = some out) : V E (QR E (some (.int out.1)) (wdM E.G a0 out.2)) (wdM E.G a0 S0) 16 [(0, .ref (a0 0))] [] := by
  unfold fX5_whips_j16 at h
  refine V_pb C hn [(.aload_n 0, 1), (.bipush (-2), 2)] (pc' := 19) (ls' := [(0, .ref (a0 0))]) (st' := [.int (cI (-2)), .ref (a0 0)]) (decB_ok (by decide +kernel)) rfl rfl ?_
  obtain ⟨q3, h4, h⟩ := bnd h
  refine V_callV0 C (As := [.int (cI (-2))]) (rest := []) (by decide +kernel) ok_yX5_no mk_RX5_77 (cfX5_no (l := E.l) (G := E.G) a0 h4) (q0 := 0) rfl rfl rfl rfl rfl rfl (Nat.le_of_ble_eq_true rfl) (Nat.le_of_ble_eq_true rfl) (Nat.le_of_ble_eq_true rfl) ?_
  show V E _ (wdM E.G a0 q3.2) 22 [(0, .ref (a0 0))] [.int q3.1]
  have h := Option.some.inj h
  subst h
  exact V_iret C (by decide +kernel) rfl
set_option maxRecDepth 100000 in
set_option maxHeartbeats 400000 in
theorem cfX5_whips_j90 {E : VE} (C : Ctx E cX5_whips RX5 11 (some .int)) (hn : E.nL = 8) {a0 : Nat → Nat} {p1 : Int32} {p2 : Int32} {v3 : Int32} {v4 : Int32} {v5 : Int32} {S0 : MT} {out : Int32 × MT} (h : fX5_whips_j90 p1 p2 v3 v4 v5 S0 = some out) : V E (QR E (some (.int out.1)) (wdM E.G a0 out.2)) (wdM E.G a0 S0) 90 [(0, .ref (a0 0)), (2, .int p2), (3, .int v3), (4, .int v4), (5, .int v5)] [] := by
  unfold fX5_whips_j90 at h
  refine V_pb C hn [(.aload_n 0, 1)] (pc' := 91) (ls' := [(0, .ref (a0 0)), (2, .int p2), (3, .int v3), (4, .int v4), (5, .int v5)]) (st' := [.ref (a0 0)]) (decB_ok (by decide +kernel)) rfl rfl ?_
  refine V_get C (v := .ref (a0 4)) (by decide +kernel) 0 6 fk_RX5_19 rfl rfl ?_
  refine V_pb C hn [(.iconst 0, 1), (.iload_n 3, 1)] (pc' := 96) (ls' := [(0, .ref (a0 0)), (2, .int p2), (3, .int v3), (4, .int v4), (5, .int v5)]) (st' := [.int v3, .int (0 : Int32), .ref (a0 4)]) (decB_ok (by decide +kernel)) rfl rfl ?_
  obtain ⟨hb9, h⟩ := gd_some h
  obtain ⟨w7, e8, h⟩ := bnd h
  refine V_iast C (f := (m_ways S0)) (ws' := wdM E.G a0 w7) (by decide +kernel) 4 rfl (o := some ()) (out := ()) (by rw [hb9]; rfl) (by cases e8; rfl) (fun _ => ?_)
  refine V_pb C hn [(.iload_n 2, 1)] (pc' := 98) (ls' := [(0, .ref (a0 0)), (2, .int p2), (3, .int v3), (4, .int v4), (5, .int v5)]) (st' := [.int p2]) (decB_ok (by decide +kernel)) rfl rfl ?_
  refine V_if_ne C (off := 8) (tgt := 106) (by decide +kernel) (by decide) h (fun _ h => ?_) (fun _ h => ?_)
  · refine V_pb C hn [(.iload 5, 2)] (pc' := 103) (ls' := [(0, .ref (a0 0)), (2, .int p2), (3, .int v3), (4, .int v4), (5, .int v5)]) (st' := [.int v5]) (decB_ok (by decide +kernel)) rfl rfl ?_
    refine V_goto C (off := 5) (tgt := 108) (by decide +kernel) (by decide) ?_
    have h := Option.some.inj h
    subst h
    exact V_iret C (by decide +kernel) rfl
  · refine V_pb C hn [(.iload 4, 2)] (pc' := 108) (ls' := [(0, .ref (a0 0)), (2, .int p2), (3, .int v3), (4, .int v4), (5, .int v5)]) (st' := [.int v4]) (decB_ok (by decide +kernel)) rfl rfl ?_
    have h := Option.some.inj h
    subst h
    exact V_iret C (by decide +kernel) rfl
set_option maxRecDepth 100000 in
set_option maxHeartbeats 400000 in
theorem cfX5_whips_j84 {E : VE} (C : Ctx E cX5_whips RX5 11 (some .int)) (hn : E.nL = 8) {a0 : Nat → Nat} {p1 : Int32} {p2 : Int32} {v3 : Int32} {v4 : Int32} {v5 : Int32} {v6 : Int32} {S0 : MT} {out : Int32 × MT} {k39 : Int32 → Int32 → Int32 → Int32 → MT → Option (Int32 × MT)} (hk39 : ∀ (v3 : Int32) (v4 : Int32) (v5 : Int32) (v6 : Int32) (S0 : MT), k39 v3 v4 v5 v6 S0 = some out → V E (QR E (some (.int out.1)) (wdM E.G a0 out.2)) (wdM E.G a0 S0) 39 [(0, .ref (a0 0)), (1, .int p1), (2, .int p2), (3, .int v3), (4, .int v4), (5, .int v5), (6, .int v6)] []) (h : fX5_whips_j84 k39 p1 p2 v3 v4 v5 v6 S0 = some out) : V E (QR E (some (.int out.1)) (wdM E.G a0 out.2)) (wdM E.G a0 S0) 84 [(0, .ref (a0 0)), (1, .int p1), (2, .int p2), (3, .int v3), (4, .int v4), (5, .int v5), (6, .int v6)] [] := by
  unfold fX5_whips_j84 at h
  refine V_pb C hn [(.iinc 6 1, 3)] (pc' := 87) (ls' := [(0, .ref (a0 0)), (1, .int p1), (2, .int p2), (3, .int v3), (4, .int v4), (5, .int v5), (6, .int (v6 + (1 : Int32)))]) (st' := []) (decB_ok (by decide +kernel)) rfl rfl ?_
  refine V_goto C (off := -48) (tgt := 39) (by decide +kernel) (by decide) ?_
  refine V_sub (ls' := [(0, .ref (a0 0)), (1, .int p1), (2, .int p2), (3, .int v3), (4, .int v4), (5, .int v5), (6, .int (v6 + (1 : Int32)))]) rfl ?_
  exact hk39 _ _ _ _ _ h
set_option maxRecDepth 100000 in
set_option maxHeartbeats 400000 in
theorem cfX5_whips_L39 {E : VE} (C : Ctx E cX5_whips RX5 11 (some .int)) (hn : E.nL = 8) {a0 : Nat → Nat} {p1 : Int32} {p2 : Int32} {out : Int32 × MT} : ∀ (n : Nat) (v3 : Int32) (v4 : Int32) (v5 : Int32) (v6 : Int32) (S0 : MT), fX5_whips_L39 p1 p2 n v3 v4 v5 v6 S0 = some out → V E (QR E (some (.int out.1)) (wdM E.G a0 out.2)) (wdM E.G a0 S0) 39 [(0, .ref (a0 0)), (1, .int p1), (2, .int p2), (3, .int v3), (4, .int v4), (5, .int v5), (6, .int v6)] [] := by
  intro n
  induction n with
  | zero =>
    intro v3 v4 v5 v6 S0 h
    cases h
  | succ n ih =>
    intro v3 v4 v5 v6 S0 h
    unfold fX5_whips_L39 at h
    refine V_pb C hn [(.iload 6, 2), (.iconst 5, 1)] (pc' := 42) (ls' := [(0, .ref (a0 0)), (1, .int p1), (2, .int p2), (3, .int v3), (4, .int v4), (5, .int v5), (6, .int v6)]) (st' := [.int (5 : Int32), .int v6]) (decB_ok (by decide +kernel)) rfl rfl ?_
    refine V_ic_ge C (off := 48) (tgt := 90) (by decide +kernel) (by decide) h (fun _ h => ?_) (fun _ h => ?_)
    · refine V_sub (ls' := [(0, .ref (a0 0)), (2, .int p2), (3, .int v3), (4, .int v4), (5, .int v5)]) rfl ?_
      exact cfX5_whips_j90 C hn h
    · refine V_pb C hn [(.aload_n 0, 1)] (pc' := 46) (ls' := [(0, .ref (a0 0)), (1, .int p1), (2, .int p2), (3, .int v3), (4, .int v4), (5, .int v5), (6, .int v6)]) (st' := [.ref (a0 0)]) (decB_ok (by decide +kernel)) rfl rfl ?_
      refine V_get C (v := .ref (a0 4)) (by decide +kernel) 0 6 fk_RX5_19 rfl rfl ?_
      refine V_pb C hn [(.iconst 0, 1), (.iload 6, 2)] (pc' := 52) (ls' := [(0, .ref (a0 0)), (1, .int p1), (2, .int p2), (3, .int v3), (4, .int v4), (5, .int v5), (6, .int v6)]) (st' := [.int v6, .int (0 : Int32), .ref (a0 4)]) (decB_ok (by decide +kernel)) rfl rfl ?_
      obtain ⟨hb9, h⟩ := gd_some h
      obtain ⟨w9, e10, h⟩ := bnd h
      refine V_iast C (f := (m_ways S0)) (ws' := wdM E.G a0 w9) (by decide +kernel) 4 rfl (o := some ()) (out := ()) (by rw [hb9]; rfl) (by cases e10; rfl) (fun _ => ?_)
      refine V_pb C hn [(.aload_n 0, 1), (.iload_n 1, 1), (.aload_n 0, 1), (.iload_n 1, 1), (.iconst 0, 1)] (pc' := 58) (ls' := [(0, .ref (a0 0)), (1, .int p1), (2, .int p2), (3, .int v3), (4, .int v4), (5, .int v5), (6, .int v6)]) (st' := [.int (0 : Int32), .int p1, .ref (a0 0), .int p1, .ref (a0 0)]) (decB_ok (by decide +kernel)) rfl rfl ?_
      obtain ⟨q11, h12, h⟩ := bnd h
      refine V_callV0 C (As := [.int p1, .int (0 : Int32)]) (rest := [.int p1, .ref (a0 0)]) (by decide +kernel) ok_yX5_turns mk_RX5_301 (cfX5_turns (l := E.l) (G := E.G) a0 h12) (q0 := 0) rfl rfl rfl rfl rfl rfl (Nat.le_of_ble_eq_true rfl) (Nat.le_of_ble_eq_true rfl) (Nat.le_of_ble_eq_true rfl) ?_
      show V E _ (wdM E.G a0 q11.2) 61 [(0, .ref (a0 0)), (1, .int p1), (2, .int p2), (3, .int v3), (4, .int v4), (5, .int v5), (6, .int v6)] [.int q11.1, .int p1, .ref (a0 0)]
      obtain ⟨q13, h14, h⟩ := bnd h
      refine V_callV0 C (As := [.int p1, .int q11.1]) (rest := []) (by decide +kernel) ok_yX5_turnedVotes mk_RX5_305 (cfX5_turnedVotes (l := E.l) (G := E.G) a0 h14) (q0 := 0) rfl rfl rfl rfl rfl rfl (Nat.le_of_ble_eq_true rfl) (Nat.le_of_ble_eq_true rfl) (Nat.le_of_ble_eq_true rfl) ?_
      show V E _ (wdM E.G a0 q13.2) 64 [(0, .ref (a0 0)), (1, .int p1), (2, .int p2), (3, .int v3), (4, .int v4), (5, .int v5), (6, .int v6)] [.int q13.1]
      refine V_pb C hn [(.istore 7, 2), (.iload 7, 2), (.iload 5, 2)] (pc' := 70) (ls' := [(0, .ref (a0 0)), (1, .int p1), (2, .int p2), (3, .int v3), (4, .int v4), (5, .int v5), (6, .int v6), (7, .int q13.1)]) (st' := [.int v5, .int q13.1]) (decB_ok (by decide +kernel)) rfl rfl ?_
      refine V_ic_gt C (off := 6) (tgt := 76) (by decide +kernel) (by decide) h (fun _ h => ?_) (fun _ h => ?_)
      · refine V_pb C hn [(.iload 7, 2), (.istore 5, 2), (.iload 6, 2), (.istore 4, 2)] (pc' := 84) (ls' := [(0, .ref (a0 0)), (1, .int p1), (2, .int p2), (3, .int v3), (4, .int v6), (5, .int q13.1), (6, .int v6), (7, .int q13.1)]) (st' := []) (decB_ok (by decide +kernel)) rfl rfl ?_
        refine V_sub (ls' := [(0, .ref (a0 0)), (1, .int p1), (2, .int p2), (3, .int v3), (4, .int v6), (5, .int q13.1), (6, .int v6)]) rfl ?_
        exact cfX5_whips_j84 C hn (k39 := (fun v3 v4 v5 v6 S0 => fX5_whips_L39 p1 p2 n v3 v4 v5 v6 S0)) (fun v3 v4 v5 v6 S0 h => ih v3 v4 v5 v6 S0 h) h
      · refine V_goto C (off := 11) (tgt := 84) (by decide +kernel) (by decide) ?_
        refine V_sub (ls' := [(0, .ref (a0 0)), (1, .int p1), (2, .int p2), (3, .int v3), (4, .int v4), (5, .int v5), (6, .int v6)]) rfl ?_
        exact cfX5_whips_j84 C hn (k39 := (fun v3 v4 v5 v6 S0 => fX5_whips_L39 p1 p2 n v3 v4 v5 v6 S0)) (fun v3 v4 v5 v6 S0 h => ih v3 v4 v5 v6 S0 h) h
set_option maxRecDepth 100000 in
set_option maxHeartbeats 400000 in
theorem cfX5_whips {l : Launch} {G : GG} (a0 : Nat → Nat) {p1 : Int32} {p2 : Int32} {S0 : MT} {out : Int32 × MT} (h : fX5_whips p1 p2 S0 = some out) : Con l G 11 yX5_whips cX5_whips 8 (some .int) [.ref (a0 0), .int p1, .int p2] (wdM G a0 S0) (some (.int out.1)) (wdM G a0 out.2) := by
  refine Con_of (by decide +kernel) (Nat.le_of_ble_eq_true rfl) (fun E hl hG hn C => ?_)
  subst hl
  subst hG
  have C : Ctx E cX5_whips RX5 11 (some .int) := C
  show V E _ _ 0 [(0, .ref (a0 0)), (1, .int p1), (2, .int p2)] []
  unfold fX5_whips at h
  refine V_pb C hn [(.iload_n 1, 1)] (pc' := 1) (ls' := [(0, .ref (a0 0)), (1, .int p1), (2, .int p2)]) (st' := [.int p1]) (decB_ok (by decide +kernel)) rfl rfl ?_
  obtain ⟨q1, h2, h⟩ := bnd h
  refine V_callSp C (As := [.int p1]) (rest := []) (by decide +kernel) ok_yX5_isTime mk_RX5_241 (cfX5_isTime (l := E.l) (G := E.G) h2) [] rfl rfl rfl rfl (Nat.le_of_ble_eq_true rfl) (Nat.le_of_ble_eq_true rfl) (Nat.le_of_ble_eq_true rfl) ?_
  show V E _ (wdM E.G a0 S0) 4 [(0, .ref (a0 0)), (1, .int p1), (2, .int p2)] [.int q1]
  refine V_if_eq C (off := 12) (tgt := 16) (by decide +kernel) (by decide) h (fun _ h => ?_) (fun _ h => ?_)
  · refine V_sub (ls' := [(0, .ref (a0 0))]) rfl ?_
    exact cfX5_whips_j16 C hn h
  · refine V_pb C hn [(.iload_n 2, 1), (.iconst 0, 1), (.iconst 1, 1)] (pc' := 10) (ls' := [(0, .ref (a0 0)), (1, .int p1), (2, .int p2)]) (st' := [.int (1 : Int32), .int (0 : Int32), .int p2]) (decB_ok (by decide +kernel)) rfl rfl ?_
    obtain ⟨q5, h6, h⟩ := bnd h
    refine V_callSp C (As := [.int p2, .int (0 : Int32), .int (1 : Int32)]) (rest := []) (by decide +kernel) ok_yX5_within mk_RX5_63 (cfX5_within (l := E.l) (G := E.G) h6) [] rfl rfl rfl rfl (Nat.le_of_ble_eq_true rfl) (Nat.le_of_ble_eq_true rfl) (Nat.le_of_ble_eq_true rfl) ?_
    show V E _ (wdM E.G a0 S0) 13 [(0, .ref (a0 0)), (1, .int p1), (2, .int p2)] [.int q5]
    refine V_if_ne C (off := 10) (tgt := 23) (by decide +kernel) (by decide) h (fun _ h => ?_) (fun _ h => ?_)
    · refine V_sub (ls' := [(0, .ref (a0 0))]) rfl ?_
      exact cfX5_whips_j16 C hn h
    · refine V_pb C hn [(.aload_n 0, 1)] (pc' := 24) (ls' := [(0, .ref (a0 0)), (1, .int p1), (2, .int p2)]) (st' := [.ref (a0 0)]) (decB_ok (by decide +kernel)) rfl rfl ?_
      refine V_get C (v := .ref (a0 4)) (by decide +kernel) 0 6 fk_RX5_19 rfl rfl ?_
      refine V_pb C hn [(.iconst 0, 1)] (pc' := 28) (ls' := [(0, .ref (a0 0)), (1, .int p1), (2, .int p2)]) (st' := [.int (0 : Int32), .ref (a0 4)]) (decB_ok (by decide +kernel)) rfl rfl ?_
      refine V_iald C (f := (m_ways S0)) (by decide +kernel) 4 rfl h (fun h => ?_)
      refine V_pb C hn [(.istore_n 3, 1), (.iconst 0, 1), (.istore 4, 2), (.iconst (-1), 1), (.istore 5, 2), (.iconst 0, 1), (.istore 6, 2)] (pc' := 39) (ls' := [(0, .ref (a0 0)), (1, .int p1), (2, .int p2), (3, .int ((m_ways S0) (ix (0 : Int32)))), (4, .int (0 : Int32)), (5, .int (cI (-1))), (6, .int (0 : Int32))]) (st' := []) (decB_ok (by decide +kernel)) rfl rfl ?_
      refine V_sub (ls' := [(0, .ref (a0 0)), (1, .int p1), (2, .int p2), (3, .int ((m_ways S0) (ix (0 : Int32)))), (4, .int (0 : Int32)), (5, .int (cI (-1))), (6, .int (0 : Int32))]) rfl ?_
      exact cfX5_whips_L39 C hn FU _ _ _ _ _ h
set_option maxRecDepth 100000 in
set_option maxHeartbeats 400000 in
theorem cfX5_answer_j16 {E : VE} (C : Ctx E cX5_answer RX5 11 (some .int)) (hn : E.nL = 5) {a0 : Nat → Nat} {p1 : Int32} {p2 : Int32} {S0 : MT} {out : Int32 × MT} (h : fX5_answer_j16 p1 p2 S0 = some out) : V E (QR E (some (.int out.1)) (wdM E.G a0 out.2)) (wdM E.G a0 S0) 16 [(0, .ref (a0 0))] [] := by
  unfold fX5_answer_j16 at h
  refine V_pb C hn [(.aload_n 0, 1), (.bipush (-2), 2)] (pc' := 19) (ls' := [(0, .ref (a0 0))]) (st' := [.int (cI (-2)), .ref (a0 0)]) (decB_ok (by decide +kernel)) rfl rfl ?_
  obtain ⟨q3, h4, h⟩ := bnd h
  refine V_callV0 C (As := [.int (cI (-2))]) (rest := []) (by decide +kernel) ok_yX5_no mk_RX5_77 (cfX5_no (l := E.l) (G := E.G) a0 h4) (q0 := 0) rfl rfl rfl rfl rfl rfl (Nat.le_of_ble_eq_true rfl) (Nat.le_of_ble_eq_true rfl) (Nat.le_of_ble_eq_true rfl) ?_
  show V E _ (wdM E.G a0 q3.2) 22 [(0, .ref (a0 0))] [.int q3.1]
  have h := Option.some.inj h
  subst h
  exact V_iret C (by decide +kernel) rfl
set_option maxRecDepth 100000 in
set_option maxHeartbeats 400000 in
theorem cfX5_answer {l : Launch} {G : GG} (a0 : Nat → Nat) {p1 : Int32} {p2 : Int32} {S0 : MT} {out : Int32 × MT} (h : fX5_answer p1 p2 S0 = some out) : Con l G 11 yX5_answer cX5_answer 5 (some .int) [.ref (a0 0), .int p1, .int p2] (wdM G a0 S0) (some (.int out.1)) (wdM G a0 out.2) := by
  refine Con_of (by decide +kernel) (Nat.le_of_ble_eq_true rfl) (fun E hl hG hn C => ?_)
  subst hl
  subst hG
  have C : Ctx E cX5_answer RX5 11 (some .int) := C
  show V E _ _ 0 [(0, .ref (a0 0)), (1, .int p1), (2, .int p2)] []
  unfold fX5_answer at h
  refine V_pb C hn [(.iload_n 1, 1)] (pc' := 1) (ls' := [(0, .ref (a0 0)), (1, .int p1), (2, .int p2)]) (st' := [.int p1]) (decB_ok (by decide +kernel)) rfl rfl ?_
  obtain ⟨q1, h2, h⟩ := bnd h
  refine V_callSp C (As := [.int p1]) (rest := []) (by decide +kernel) ok_yX5_isTime mk_RX5_241 (cfX5_isTime (l := E.l) (G := E.G) h2) [] rfl rfl rfl rfl (Nat.le_of_ble_eq_true rfl) (Nat.le_of_ble_eq_true rfl) (Nat.le_of_ble_eq_true rfl) ?_
  show V E _ (wdM E.G a0 S0) 4 [(0, .ref (a0 0)), (1, .int p1), (2, .int p2)] [.int q1]
  refine V_if_eq C (off := 12) (tgt := 16) (by decide +kernel) (by decide) h (fun _ h => ?_) (fun _ h => ?_)
  · refine V_sub (ls' := [(0, .ref (a0 0))]) rfl ?_
    exact cfX5_answer_j16 C hn h
  · refine V_pb C hn [(.iload_n 2, 1), (.iconst 0, 1), (.iconst 4, 1)] (pc' := 10) (ls' := [(0, .ref (a0 0)), (1, .int p1), (2, .int p2)]) (st' := [.int (4 : Int32), .int (0 : Int32), .int p2]) (decB_ok (by decide +kernel)) rfl rfl ?_
    obtain ⟨q5, h6, h⟩ := bnd h
    refine V_callSp C (As := [.int p2, .int (0 : Int32), .int (4 : Int32)]) (rest := []) (by decide +kernel) ok_yX5_within mk_RX5_63 (cfX5_within (l := E.l) (G := E.G) h6) [] rfl rfl rfl rfl (Nat.le_of_ble_eq_true rfl) (Nat.le_of_ble_eq_true rfl) (Nat.le_of_ble_eq_true rfl) ?_
    show V E _ (wdM E.G a0 S0) 13 [(0, .ref (a0 0)), (1, .int p1), (2, .int p2)] [.int q5]
    refine V_if_ne C (off := 10) (tgt := 23) (by decide +kernel) (by decide) h (fun _ h => ?_) (fun _ h => ?_)
    · refine V_sub (ls' := [(0, .ref (a0 0))]) rfl ?_
      exact cfX5_answer_j16 C hn h
    · refine V_pb C hn [(.aload_n 0, 1)] (pc' := 24) (ls' := [(0, .ref (a0 0)), (1, .int p1), (2, .int p2)]) (st' := [.ref (a0 0)]) (decB_ok (by decide +kernel)) rfl rfl ?_
      refine V_get C (v := .ref (a0 4)) (by decide +kernel) 0 6 fk_RX5_19 rfl rfl ?_
      refine V_pb C hn [(.iconst 0, 1)] (pc' := 28) (ls' := [(0, .ref (a0 0)), (1, .int p1), (2, .int p2)]) (st' := [.int (0 : Int32), .ref (a0 4)]) (decB_ok (by decide +kernel)) rfl rfl ?_
      refine V_iald C (f := (m_ways S0)) (by decide +kernel) 4 rfl h (fun h => ?_)
      refine V_pb C hn [(.istore_n 3, 1), (.aload_n 0, 1)] (pc' := 31) (ls' := [(0, .ref (a0 0)), (1, .int p1), (2, .int p2), (3, .int ((m_ways S0) (ix (0 : Int32))))]) (st' := [.ref (a0 0)]) (decB_ok (by decide +kernel)) rfl rfl ?_
      refine V_get C (v := .ref (a0 4)) (by decide +kernel) 0 6 fk_RX5_19 rfl rfl ?_
      refine V_pb C hn [(.iconst 0, 1), (.iload_n 2, 1)] (pc' := 36) (ls' := [(0, .ref (a0 0)), (1, .int p1), (2, .int p2), (3, .int ((m_ways S0) (ix (0 : Int32))))]) (st' := [.int p2, .int (0 : Int32), .ref (a0 4)]) (decB_ok (by decide +kernel)) rfl rfl ?_
      obtain ⟨hb9, h⟩ := gd_some h
      obtain ⟨w7, e8, h⟩ := bnd h
      refine V_iast C (f := (m_ways S0)) (ws' := wdM E.G a0 w7) (by decide +kernel) 4 rfl (o := some ()) (out := ()) (by rw [hb9]; rfl) (by cases e8; rfl) (fun _ => ?_)
      refine V_pb C hn [(.aload_n 0, 1), (.iload_n 1, 1), (.iconst 0, 1)] (pc' := 40) (ls' := [(0, .ref (a0 0)), (1, .int p1), (2, .int p2), (3, .int ((m_ways S0) (ix (0 : Int32))))]) (st' := [.int (0 : Int32), .int p1, .ref (a0 0)]) (decB_ok (by decide +kernel)) rfl rfl ?_
      obtain ⟨q9, h10, h⟩ := bnd h
      refine V_callV0 C (As := [.int p1, .int (0 : Int32)]) (rest := []) (by decide +kernel) ok_yX5_turns mk_RX5_301 (cfX5_turns (l := E.l) (G := E.G) a0 h10) (q0 := 0) rfl rfl rfl rfl rfl rfl (Nat.le_of_ble_eq_true rfl) (Nat.le_of_ble_eq_true rfl) (Nat.le_of_ble_eq_true rfl) ?_
      show V E _ (wdM E.G a0 q9.2) 43 [(0, .ref (a0 0)), (1, .int p1), (2, .int p2), (3, .int ((m_ways S0) (ix (0 : Int32))))] [.int q9.1]
      refine V_pb C hn [(.istore 4, 2), (.aload_n 0, 1)] (pc' := 46) (ls' := [(0, .ref (a0 0)), (1, .int p1), (2, .int p2), (3, .int ((m_ways S0) (ix (0 : Int32)))), (4, .int q9.1)]) (st' := [.ref (a0 0)]) (decB_ok (by decide +kernel)) rfl rfl ?_
      refine V_get C (v := .ref (a0 4)) (by decide +kernel) 0 6 fk_RX5_19 rfl rfl ?_
      refine V_pb C hn [(.iconst 0, 1), (.iload_n 3, 1)] (pc' := 51) (ls' := [(0, .ref (a0 0)), (1, .int p1), (2, .int p2), (3, .int ((m_ways S0) (ix (0 : Int32)))), (4, .int q9.1)]) (st' := [.int ((m_ways S0) (ix (0 : Int32))), .int (0 : Int32), .ref (a0 4)]) (decB_ok (by decide +kernel)) rfl rfl ?_
      obtain ⟨x11, e12, h⟩ := bnd h
      refine V_topi e12 ?_
      obtain ⟨hb9, h⟩ := gd_some h
      obtain ⟨w13, e14, h⟩ := bnd h
      refine V_iast C (f := (m_ways q9.2)) (ws' := wdM E.G a0 w13) (by decide +kernel) 4 rfl (o := some ()) (out := ()) (by rw [hb9]; rfl) (by cases e14; rfl) (fun _ => ?_)
      refine V_pb C hn [(.iload 4, 2)] (pc' := 54) (ls' := [(0, .ref (a0 0)), (1, .int p1), (2, .int p2), (3, .int ((m_ways S0) (ix (0 : Int32)))), (4, .int q9.1)]) (st' := [.int q9.1]) (decB_ok (by decide +kernel)) rfl rfl ?_
      have h := Option.some.inj h
      subst h
      exact V_iret C (by decide +kernel) rfl
set_option maxRecDepth 100000 in
set_option maxHeartbeats 400000 in
theorem cfX5_doorFor {l : Launch} {G : GG} (a0 : Nat → Nat) {p1 : Int32} {S0 : MT} {out : Int32 × MT} (h : fX5_doorFor p1 S0 = some out) : Con l G 11 yX5_doorFor cX5_doorFor 2 (some .int) [.ref (a0 0), .int p1] (wdM G a0 S0) (some (.int out.1)) (wdM G a0 out.2) := by
  refine Con_of (by decide +kernel) (Nat.le_of_ble_eq_true rfl) (fun E hl hG hn C => ?_)
  subst hl
  subst hG
  have C : Ctx E cX5_doorFor RX5 11 (some .int) := C
  show V E _ _ 0 [(0, .ref (a0 0)), (1, .int p1)] []
  unfold fX5_doorFor at h
  refine V_pb C hn [(.iload_n 1, 1)] (pc' := 1) (ls' := [(0, .ref (a0 0)), (1, .int p1)]) (st' := [.int p1]) (decB_ok (by decide +kernel)) rfl rfl ?_
  obtain ⟨q1, h2, h⟩ := bnd h
  refine V_callSp C (As := [.int p1]) (rest := []) (by decide +kernel) ok_yX5_isTime mk_RX5_241 (cfX5_isTime (l := E.l) (G := E.G) h2) [] rfl rfl rfl rfl (Nat.le_of_ble_eq_true rfl) (Nat.le_of_ble_eq_true rfl) (Nat.le_of_ble_eq_true rfl) ?_
  show V E _ (wdM E.G a0 S0) 4 [(0, .ref (a0 0)), (1, .int p1)] [.int q1]
  refine V_if_eq C (off := 12) (tgt := 16) (by decide +kernel) (by decide) h (fun _ h => ?_) (fun _ h => ?_)
  · refine V_pb C hn [(.aload_n 0, 1), (.bipush (-2), 2)] (pc' := 19) (ls' := [(0, .ref (a0 0)), (1, .int p1)]) (st' := [.int (cI (-2)), .ref (a0 0)]) (decB_ok (by decide +kernel)) rfl rfl ?_
    obtain ⟨q3, h4, h⟩ := bnd h
    refine V_callV0 C (As := [.int (cI (-2))]) (rest := []) (by decide +kernel) ok_yX5_no mk_RX5_77 (cfX5_no (l := E.l) (G := E.G) a0 h4) (q0 := 0) rfl rfl rfl rfl rfl rfl (Nat.le_of_ble_eq_true rfl) (Nat.le_of_ble_eq_true rfl) (Nat.le_of_ble_eq_true rfl) ?_
    show V E _ (wdM E.G a0 q3.2) 22 [(0, .ref (a0 0)), (1, .int p1)] [.int q3.1]
    have h := Option.some.inj h
    subst h
    exact V_iret C (by decide +kernel) rfl
  · refine V_pb C hn [(.aload_n 0, 1), (.iload_n 1, 1), (.iconst 1, 1)] (pc' := 10) (ls' := [(0, .ref (a0 0)), (1, .int p1)]) (st' := [.int (1 : Int32), .int p1, .ref (a0 0)]) (decB_ok (by decide +kernel)) rfl rfl ?_
    obtain ⟨q5, h6, h⟩ := bnd h
    refine V_callV0 C (As := [.int p1, .int (1 : Int32)]) (rest := []) (by decide +kernel) ok_yX5_turns mk_RX5_301 (cfX5_turns (l := E.l) (G := E.G) a0 h6) (q0 := 0) rfl rfl rfl rfl rfl rfl (Nat.le_of_ble_eq_true rfl) (Nat.le_of_ble_eq_true rfl) (Nat.le_of_ble_eq_true rfl) ?_
    show V E _ (wdM E.G a0 q5.2) 13 [(0, .ref (a0 0)), (1, .int p1)] [.int q5.1]
    refine V_goto C (off := 9) (tgt := 22) (by decide +kernel) (by decide) ?_
    have h := Option.some.inj h
    subst h
    exact V_iret C (by decide +kernel) rfl
set_option maxRecDepth 100000 in
set_option maxHeartbeats 400000 in
theorem cfX5_draughts_j209 {d : Nat} {kr : Int32 → Int32 → Int64 → MT → Option (MT)} {E : VE} (C : Ctx E cX5_draughts RX5 (8 + 2 * (d + 1)) none) (hn : E.nL = 9) (ihd : ∀ (a0 : Nat → Nat) (p1 : Int32) (p2 : Int32) (p3 : Int64) (S0 : MT) (out : MT), kr p1 p2 p3 S0 = some out → Con E.l E.G (8 + 2 * d) yX5_draughts cX5_draughts 9 none [.ref (a0 0), .int p1, .int p2, .long p3] (wdM E.G a0 S0) none (wdM E.G a0 out)) {a0 : Nat → Nat} {p1 : Int32} {p2 : Int32} {p3 : Int64} {v5 : Int32} {S0 : MT} {out : MT} {k91 : Int32 → MT → Option (MT)} (hk91 : ∀ (v5 : Int32) (S0 : MT), k91 v5 S0 = some out → V E (QR E none (wdM E.G a0 out)) (wdM E.G a0 S0) 91 [(0, .ref (a0 0)), (1, .int p1), (2, .int p2), (3, .long p3), (5, .int v5)] []) (h : fX5_draughts_j209 kr k91 p1 p2 p3 v5 S0 = some out) : V E (QR E none (wdM E.G a0 out)) (wdM E.G a0 S0) 209 [(0, .ref (a0 0)), (1, .int p1), (2, .int p2), (3, .long p3), (5, .int v5)] [] := by
  unfold fX5_draughts_j209 at h
  refine V_pb C hn [(.aload_n 0, 1)] (pc' := 210) (ls' := [(0, .ref (a0 0)), (1, .int p1), (2, .int p2), (3, .long p3), (5, .int v5)]) (st' := [.ref (a0 0)]) (decB_ok (by decide +kernel)) rfl rfl ?_
  refine V_get C (v := .ref (a0 4)) (by decide +kernel) 0 6 fk_RX5_19 rfl rfl ?_
  refine V_pb C hn [(.iconst 2, 1), (.aload_n 0, 1)] (pc' := 215) (ls' := [(0, .ref (a0 0)), (1, .int p1), (2, .int p2), (3, .long p3), (5, .int v5)]) (st' := [.ref (a0 0), .int (2 : Int32), .ref (a0 4)]) (decB_ok (by decide +kernel)) rfl rfl ?_
  refine V_get C (v := .ref (a0 14)) (by decide +kernel) 0 24 fk_RX5_50 rfl rfl ?_
  refine V_pb C hn [(.iload_n 1, 1)] (pc' := 219) (ls' := [(0, .ref (a0 0)), (1, .int p1), (2, .int p2), (3, .long p3), (5, .int v5)]) (st' := [.int p1, .ref (a0 14), .int (2 : Int32), .ref (a0 4)]) (decB_ok (by decide +kernel)) rfl rfl ?_
  refine V_iald C (f := (m_stackHour S0)) (by decide +kernel) 14 rfl h (fun h => ?_)
  obtain ⟨x23, e24, h⟩ := bnd h
  refine V_topi e24 ?_
  obtain ⟨hb9, h⟩ := gd_some h
  obtain ⟨w25, e26, h⟩ := bnd h
  refine V_iast C (f := (m_ways S0)) (ws' := wdM E.G a0 w25) (by decide +kernel) 4 rfl (o := some ()) (out := ()) (by rw [hb9]; rfl) (by cases e26; rfl) (fun _ => ?_)
  refine V_pb C hn [(.iinc 5 1, 3)] (pc' := 224) (ls' := [(0, .ref (a0 0)), (1, .int p1), (2, .int p2), (3, .long p3), (5, .int (v5 + (1 : Int32)))]) (st' := []) (decB_ok (by decide +kernel)) rfl rfl ?_
  refine V_goto C (off := -133) (tgt := 91) (by decide +kernel) (by decide) ?_
  refine V_sub (ls' := [(0, .ref (a0 0)), (1, .int p1), (2, .int p2), (3, .long p3), (5, .int (v5 + (1 : Int32)))]) rfl ?_
  exact hk91 _ _ h
set_option maxRecDepth 100000 in
set_option maxHeartbeats 400000 in
theorem cfX5_draughts_L175 {d : Nat} {kr : Int32 → Int32 → Int64 → MT → Option (MT)} {E : VE} (C : Ctx E cX5_draughts RX5 (8 + 2 * (d + 1)) none) (hn : E.nL = 9) (ihd : ∀ (a0 : Nat → Nat) (p1 : Int32) (p2 : Int32) (p3 : Int64) (S0 : MT) (out : MT), kr p1 p2 p3 S0 = some out → Con E.l E.G (8 + 2 * d) yX5_draughts cX5_draughts 9 none [.ref (a0 0), .int p1, .int p2, .long p3] (wdM E.G a0 S0) none (wdM E.G a0 out)) {a0 : Nat → Nat} {p1 : Int32} {p2 : Int32} {p3 : Int64} {out : MT} {k91 : Int32 → MT → Option (MT)} (hk91 : ∀ (v5 : Int32) (S0 : MT), k91 v5 S0 = some out → V E (QR E none (wdM E.G a0 out)) (wdM E.G a0 S0) 91 [(0, .ref (a0 0)), (1, .int p1), (2, .int p2), (3, .long p3), (5, .int v5)] []) : ∀ (n : Nat) (v5 : Int32) (v8 : Int32) (S0 : MT), fX5_draughts_L175 kr k91 p1 p2 p3 n v5 v8 S0 = some out → V E (QR E none (wdM E.G a0 out)) (wdM E.G a0 S0) 175 [(0, .ref (a0 0)), (1, .int p1), (2, .int p2), (3, .long p3), (5, .int v5), (8, .int v8)] [] := by
  intro n
  induction n with
  | zero =>
    intro v5 v8 S0 h
    cases h
  | succ n ih =>
    intro v5 v8 S0 h
    unfold fX5_draughts_L175 at h
    refine V_pb C hn [(.iload 8, 2), (.aload_n 0, 1)] (pc' := 178) (ls' := [(0, .ref (a0 0)), (1, .int p1), (2, .int p2), (3, .long p3), (5, .int v5), (8, .int v8)]) (st' := [.ref (a0 0), .int v8]) (decB_ok (by decide +kernel)) rfl rfl ?_
    refine V_get C (v := .int (m_motes S0)) (by decide +kernel) 0 1 fk_RX5_60 rfl rfl ?_
    refine V_ic_ge C (off := 28) (tgt := 209) (by decide +kernel) (by decide) h (fun _ h => ?_) (fun _ h => ?_)
    · refine V_sub (ls' := [(0, .ref (a0 0)), (1, .int p1), (2, .int p2), (3, .long p3), (5, .int v5)]) rfl ?_
      exact cfX5_draughts_j209 C hn ihd (k91 := k91) (hk91) h
    · refine V_pb C hn [(.aload_n 0, 1)] (pc' := 185) (ls' := [(0, .ref (a0 0)), (1, .int p1), (2, .int p2), (3, .long p3), (5, .int v5), (8, .int v8)]) (st' := [.ref (a0 0)]) (decB_ok (by decide +kernel)) rfl rfl ?_
      refine V_get C (v := .ref (a0 3)) (by decide +kernel) 0 4 fk_RX5_16 rfl rfl ?_
      refine V_pb C hn [(.iload 8, 2), (.aload_n 0, 1)] (pc' := 191) (ls' := [(0, .ref (a0 0)), (1, .int p1), (2, .int p2), (3, .long p3), (5, .int v5), (8, .int v8)]) (st' := [.ref (a0 0), .int v8, .ref (a0 3)]) (decB_ok (by decide +kernel)) rfl rfl ?_
      refine V_get C (v := .ref (a0 13)) (by decide +kernel) 0 23 fk_RX5_47 rfl rfl ?_
      refine V_pb C hn [(.bipush 10, 2), (.iload_n 1, 1), (.imul, 1), (.iload 8, 2), (.iadd, 1)] (pc' := 201) (ls' := [(0, .ref (a0 0)), (1, .int p1), (2, .int p2), (3, .long p3), (5, .int v5), (8, .int v8)]) (st' := [.int (((10 : Int32) * p1) + v8), .ref (a0 13), .int v8, .ref (a0 3)]) (decB_ok (by decide +kernel)) rfl rfl ?_
      refine V_iald C (f := (m_stackCell S0)) (by decide +kernel) 13 rfl h (fun h => ?_)
      obtain ⟨x27, e28, h⟩ := bnd h
      refine V_topi e28 ?_
      obtain ⟨hb9, h⟩ := gd_some h
      obtain ⟨w29, e30, h⟩ := bnd h
      refine V_iast C (f := (m_cell S0)) (ws' := wdM E.G a0 w29) (by decide +kernel) 3 rfl (o := some ()) (out := ()) (by rw [hb9]; rfl) (by cases e30; rfl) (fun _ => ?_)
      refine V_pb C hn [(.iinc 8 1, 3)] (pc' := 206) (ls' := [(0, .ref (a0 0)), (1, .int p1), (2, .int p2), (3, .long p3), (5, .int v5), (8, .int (v8 + (1 : Int32)))]) (st' := []) (decB_ok (by decide +kernel)) rfl rfl ?_
      refine V_goto C (off := -31) (tgt := 175) (by decide +kernel) (by decide) ?_
      refine V_sub (ls' := [(0, .ref (a0 0)), (1, .int p1), (2, .int p2), (3, .long p3), (5, .int v5), (8, .int (v8 + (1 : Int32)))]) rfl ?_
      exact ih _ _ _ h
set_option maxRecDepth 100000 in
set_option maxHeartbeats 400000 in
theorem cfX5_draughts_j152 {d : Nat} {kr : Int32 → Int32 → Int64 → MT → Option (MT)} {E : VE} (C : Ctx E cX5_draughts RX5 (8 + 2 * (d + 1)) none) (hn : E.nL = 9) (ihd : ∀ (a0 : Nat → Nat) (p1 : Int32) (p2 : Int32) (p3 : Int64) (S0 : MT) (out : MT), kr p1 p2 p3 S0 = some out → Con E.l E.G (8 + 2 * d) yX5_draughts cX5_draughts 9 none [.ref (a0 0), .int p1, .int p2, .long p3] (wdM E.G a0 S0) none (wdM E.G a0 out)) {a0 : Nat → Nat} {p1 : Int32} {p2 : Int32} {p3 : Int64} {v5 : Int32} {v6 : Int64} {S0 : MT} {out : MT} {k91 : Int32 → MT → Option (MT)} (hk91 : ∀ (v5 : Int32) (S0 : MT), k91 v5 S0 = some out → V E (QR E none (wdM E.G a0 out)) (wdM E.G a0 S0) 91 [(0, .ref (a0 0)), (1, .int p1), (2, .int p2), (3, .long p3), (5, .int v5)] []) (h : fX5_draughts_j152 kr k91 p1 p2 p3 v5 v6 S0 = some out) : V E (QR E none (wdM E.G a0 out)) (wdM E.G a0 S0) 152 [(0, .ref (a0 0)), (1, .int p1), (2, .int p2), (3, .long p3), (5, .int v5), (6, .long v6)] [] := by
  unfold fX5_draughts_j152 at h
  refine V_pb C hn [(.aload_n 0, 1), (.iload 5, 2)] (pc' := 155) (ls' := [(0, .ref (a0 0)), (1, .int p1), (2, .int p2), (3, .long p3), (5, .int v5), (6, .long v6)]) (st' := [.int v5, .ref (a0 0)]) (decB_ok (by decide +kernel)) rfl rfl ?_
  obtain ⟨w17, e18, h⟩ := bnd h
  refine V_put C (v := .int v5) (ws' := wdM E.G a0 w17) (by decide +kernel) 0 5 pk_RX5_109 rfl rfl rfl (Nat.le_of_ble_eq_true rfl) (by cases e18; rfl) ?_
  refine V_pb C hn [(.aload_n 0, 1)] (pc' := 159) (ls' := [(0, .ref (a0 0)), (1, .int p1), (2, .int p2), (3, .long p3), (5, .int v5), (6, .long v6)]) (st' := [.ref (a0 0)]) (decB_ok (by decide +kernel)) rfl rfl ?_
  obtain ⟨q19, h20, h⟩ := bnd h
  refine V_callV0 C (As := []) (rest := []) (by decide +kernel) ok_yX5_step mk_RX5_225 (cfX5_step (l := E.l) (G := E.G) a0 h20) (q0 := 0) rfl rfl rfl rfl rfl rfl (by omega) (Nat.le_of_ble_eq_true rfl) (Nat.le_of_ble_eq_true rfl) ?_
  show V E _ (wdM E.G a0 q19) 162 [(0, .ref (a0 0)), (1, .int p1), (2, .int p2), (3, .long p3), (5, .int v5), (6, .long v6)] []
  refine V_pb C hn [(.aload_n 0, 1), (.iload_n 1, 1), (.iconst 1, 1), (.iadd, 1), (.iload_n 2, 1), (.lload 6, 2)] (pc' := 169) (ls' := [(0, .ref (a0 0)), (1, .int p1), (2, .int p2), (3, .long p3), (5, .int v5), (6, .long v6)]) (st' := [.long v6, .int p2, .int (p1 + (1 : Int32)), .ref (a0 0)]) (decB_ok (by decide +kernel)) rfl rfl ?_
  obtain ⟨q21, h22, h⟩ := bnd h
  refine V_callV0 C (As := [.int (p1 + (1 : Int32)), .int p2, .long v6]) (rest := []) (by decide +kernel) ok_yX5_draughts mk_RX5_315 (ihd a0 _ _ _ _ _ h22) (q0 := 0) rfl rfl rfl rfl rfl rfl (by omega) (Nat.le_of_ble_eq_true rfl) (Nat.le_of_ble_eq_true rfl) ?_
  show V E _ (wdM E.G a0 q21) 172 [(0, .ref (a0 0)), (1, .int p1), (2, .int p2), (3, .long p3), (5, .int v5), (6, .long v6)] []
  refine V_pb C hn [(.iconst 0, 1), (.istore 8, 2)] (pc' := 175) (ls' := [(0, .ref (a0 0)), (1, .int p1), (2, .int p2), (3, .long p3), (5, .int v5), (6, .long v6), (8, .int (0 : Int32))]) (st' := []) (decB_ok (by decide +kernel)) rfl rfl ?_
  refine V_sub (ls' := [(0, .ref (a0 0)), (1, .int p1), (2, .int p2), (3, .long p3), (5, .int v5), (8, .int (0 : Int32))]) rfl ?_
  exact cfX5_draughts_L175 C hn ihd (k91 := k91) (hk91) FU _ _ _ h
set_option maxRecDepth 100000 in
set_option maxHeartbeats 400000 in
theorem cfX5_draughts_j143 {d : Nat} {kr : Int32 → Int32 → Int64 → MT → Option (MT)} {E : VE} (C : Ctx E cX5_draughts RX5 (8 + 2 * (d + 1)) none) (hn : E.nL = 9) (ihd : ∀ (a0 : Nat → Nat) (p1 : Int32) (p2 : Int32) (p3 : Int64) (S0 : MT) (out : MT), kr p1 p2 p3 S0 = some out → Con E.l E.G (8 + 2 * d) yX5_draughts cX5_draughts 9 none [.ref (a0 0), .int p1, .int p2, .long p3] (wdM E.G a0 S0) none (wdM E.G a0 out)) {a0 : Nat → Nat} {p1 : Int32} {p2 : Int32} {p3 : Int64} {v5 : Int32} {v8 : Int32} {s0 : Int64} {s1 : Int64} {S0 : MT} {out : MT} {k91 : Int32 → MT → Option (MT)} (hk91 : ∀ (v5 : Int32) (S0 : MT), k91 v5 S0 = some out → V E (QR E none (wdM E.G a0 out)) (wdM E.G a0 S0) 91 [(0, .ref (a0 0)), (1, .int p1), (2, .int p2), (3, .long p3), (5, .int v5)] []) {k104 : Int32 → Int64 → Int32 → MT → Option (MT)} (hk104 : ∀ (v5 : Int32) (v6 : Int64) (v8 : Int32) (S0 : MT), k104 v5 v6 v8 S0 = some out → V E (QR E none (wdM E.G a0 out)) (wdM E.G a0 S0) 104 [(0, .ref (a0 0)), (1, .int p1), (2, .int p2), (3, .long p3), (5, .int v5), (6, .long v6), (8, .int v8)] []) (h : fX5_draughts_j143 kr k91 k104 p1 p2 p3 v5 v8 s0 s1 S0 = some out) : V E (QR E none (wdM E.G a0 out)) (wdM E.G a0 S0) 143 [(0, .ref (a0 0)), (1, .int p1), (2, .int p2), (3, .long p3), (5, .int v5), (8, .int v8)] [.long s0, .long s1] := by
  unfold fX5_draughts_j143 at h
  refine V_pb C hn [(.lmul, 1), (.lstore 6, 2), (.iinc 8 1, 3)] (pc' := 149) (ls' := [(0, .ref (a0 0)), (1, .int p1), (2, .int p2), (3, .long p3), (5, .int v5), (6, .long (s1 * s0)), (8, .int (v8 + (1 : Int32)))]) (st' := []) (decB_ok (by decide +kernel)) rfl rfl ?_
  refine V_goto C (off := -45) (tgt := 104) (by decide +kernel) (by decide) ?_
  refine V_sub (ls' := [(0, .ref (a0 0)), (1, .int p1), (2, .int p2), (3, .long p3), (5, .int v5), (6, .long (s1 * s0)), (8, .int (v8 + (1 : Int32)))]) rfl ?_
  exact hk104 _ _ _ _ h
set_option maxRecDepth 100000 in
set_option maxHeartbeats 400000 in
theorem cfX5_draughts_L104 {d : Nat} {kr : Int32 → Int32 → Int64 → MT → Option (MT)} {E : VE} (C : Ctx E cX5_draughts RX5 (8 + 2 * (d + 1)) none) (hn : E.nL = 9) (ihd : ∀ (a0 : Nat → Nat) (p1 : Int32) (p2 : Int32) (p3 : Int64) (S0 : MT) (out : MT), kr p1 p2 p3 S0 = some out → Con E.l E.G (8 + 2 * d) yX5_draughts cX5_draughts 9 none [.ref (a0 0), .int p1, .int p2, .long p3] (wdM E.G a0 S0) none (wdM E.G a0 out)) {a0 : Nat → Nat} {p1 : Int32} {p2 : Int32} {p3 : Int64} {out : MT} {k91 : Int32 → MT → Option (MT)} (hk91 : ∀ (v5 : Int32) (S0 : MT), k91 v5 S0 = some out → V E (QR E none (wdM E.G a0 out)) (wdM E.G a0 S0) 91 [(0, .ref (a0 0)), (1, .int p1), (2, .int p2), (3, .long p3), (5, .int v5)] []) : ∀ (n : Nat) (v5 : Int32) (v6 : Int64) (v8 : Int32) (S0 : MT), fX5_draughts_L104 kr k91 p1 p2 p3 n v5 v6 v8 S0 = some out → V E (QR E none (wdM E.G a0 out)) (wdM E.G a0 S0) 104 [(0, .ref (a0 0)), (1, .int p1), (2, .int p2), (3, .long p3), (5, .int v5), (6, .long v6), (8, .int v8)] [] := by
  intro n
  induction n with
  | zero =>
    intro v5 v6 v8 S0 h
    cases h
  | succ n ih =>
    intro v5 v6 v8 S0 h
    unfold fX5_draughts_L104 at h
    refine V_pb C hn [(.iload 8, 2), (.iconst 4, 1)] (pc' := 107) (ls' := [(0, .ref (a0 0)), (1, .int p1), (2, .int p2), (3, .long p3), (5, .int v5), (6, .long v6), (8, .int v8)]) (st' := [.int (4 : Int32), .int v8]) (decB_ok (by decide +kernel)) rfl rfl ?_
    refine V_ic_ge C (off := 45) (tgt := 152) (by decide +kernel) (by decide) h (fun _ h => ?_) (fun _ h => ?_)
    · refine V_sub (ls' := [(0, .ref (a0 0)), (1, .int p1), (2, .int p2), (3, .long p3), (5, .int v5), (6, .long v6)]) rfl ?_
      exact cfX5_draughts_j152 C hn ihd (k91 := k91) (hk91) h
    · refine V_pb C hn [(.lload 6, 2), (.iload 5, 2), (.iload 8, 2), (.ishr, 1), (.iconst 1, 1), (.iand, 1), (.iconst 1, 1)] (pc' := 120) (ls' := [(0, .ref (a0 0)), (1, .int p1), (2, .int p2), (3, .long p3), (5, .int v5), (6, .long v6), (8, .int v8)]) (st' := [.int (1 : Int32), .int ((jshr v5 v8) &&& (1 : Int32)), .long v6]) (decB_ok (by decide +kernel)) rfl rfl ?_
      refine V_ic_ne C (off := 13) (tgt := 133) (by decide +kernel) (by decide) h (fun _ h => ?_) (fun _ h => ?_)
      · refine V_pb C hn [(.aload_n 0, 1)] (pc' := 124) (ls' := [(0, .ref (a0 0)), (1, .int p1), (2, .int p2), (3, .long p3), (5, .int v5), (6, .long v6), (8, .int v8)]) (st' := [.ref (a0 0), .long v6]) (decB_ok (by decide +kernel)) rfl rfl ?_
        refine V_get C (v := .ref (a0 4)) (by decide +kernel) 0 6 fk_RX5_19 rfl rfl ?_
        refine V_pb C hn [(.iconst 4, 1)] (pc' := 128) (ls' := [(0, .ref (a0 0)), (1, .int p1), (2, .int p2), (3, .long p3), (5, .int v5), (6, .long v6), (8, .int v8)]) (st' := [.int (4 : Int32), .ref (a0 4), .long v6]) (decB_ok (by decide +kernel)) rfl rfl ?_
        refine V_iald C (f := (m_ways S0)) (by decide +kernel) 4 rfl h (fun h => ?_)
        refine V_pb C hn [(.i2l, 1)] (pc' := 130) (ls' := [(0, .ref (a0 0)), (1, .int p1), (2, .int p2), (3, .long p3), (5, .int v5), (6, .long v6), (8, .int v8)]) (st' := [.long ((m_ways S0) (ix (4 : Int32))).toInt64, .long v6]) (decB_ok (by decide +kernel)) rfl rfl ?_
        refine V_goto C (off := 13) (tgt := 143) (by decide +kernel) (by decide) ?_
        refine V_sub (ls' := [(0, .ref (a0 0)), (1, .int p1), (2, .int p2), (3, .long p3), (5, .int v5), (8, .int v8)]) rfl ?_
        exact cfX5_draughts_j143 C hn ihd (k91 := k91) (hk91) (k104 := (fun v5 v6 v8 S0 => fX5_draughts_L104 kr k91 p1 p2 p3 n v5 v6 v8 S0)) (fun v5 v6 v8 S0 h => ih v5 v6 v8 S0 h) h
      · refine V_pb C hn [(.bipush 12, 2), (.aload_n 0, 1)] (pc' := 136) (ls' := [(0, .ref (a0 0)), (1, .int p1), (2, .int p2), (3, .long p3), (5, .int v5), (6, .long v6), (8, .int v8)]) (st' := [.ref (a0 0), .int (12 : Int32), .long v6]) (decB_ok (by decide +kernel)) rfl rfl ?_
        refine V_get C (v := .ref (a0 4)) (by decide +kernel) 0 6 fk_RX5_19 rfl rfl ?_
        refine V_pb C hn [(.iconst 4, 1)] (pc' := 140) (ls' := [(0, .ref (a0 0)), (1, .int p1), (2, .int p2), (3, .long p3), (5, .int v5), (6, .long v6), (8, .int v8)]) (st' := [.int (4 : Int32), .ref (a0 4), .int (12 : Int32), .long v6]) (decB_ok (by decide +kernel)) rfl rfl ?_
        refine V_iald C (f := (m_ways S0)) (by decide +kernel) 4 rfl h (fun h => ?_)
        refine V_pb C hn [(.isub, 1), (.i2l, 1)] (pc' := 143) (ls' := [(0, .ref (a0 0)), (1, .int p1), (2, .int p2), (3, .long p3), (5, .int v5), (6, .long v6), (8, .int v8)]) (st' := [.long ((12 : Int32) - ((m_ways S0) (ix (4 : Int32)))).toInt64, .long v6]) (decB_ok (by decide +kernel)) rfl rfl ?_
        refine V_sub (ls' := [(0, .ref (a0 0)), (1, .int p1), (2, .int p2), (3, .long p3), (5, .int v5), (8, .int v8)]) rfl ?_
        exact cfX5_draughts_j143 C hn ihd (k91 := k91) (hk91) (k104 := (fun v5 v6 v8 S0 => fX5_draughts_L104 kr k91 p1 p2 p3 n v5 v6 v8 S0)) (fun v5 v6 v8 S0 h => ih v5 v6 v8 S0 h) h
set_option maxRecDepth 100000 in
set_option maxHeartbeats 400000 in
theorem cfX5_draughts_L91 {d : Nat} {kr : Int32 → Int32 → Int64 → MT → Option (MT)} {E : VE} (C : Ctx E cX5_draughts RX5 (8 + 2 * (d + 1)) none) (hn : E.nL = 9) (ihd : ∀ (a0 : Nat → Nat) (p1 : Int32) (p2 : Int32) (p3 : Int64) (S0 : MT) (out : MT), kr p1 p2 p3 S0 = some out → Con E.l E.G (8 + 2 * d) yX5_draughts cX5_draughts 9 none [.ref (a0 0), .int p1, .int p2, .long p3] (wdM E.G a0 S0) none (wdM E.G a0 out)) {a0 : Nat → Nat} {p1 : Int32} {p2 : Int32} {p3 : Int64} {out : MT} : ∀ (n : Nat) (v5 : Int32) (S0 : MT), fX5_draughts_L91 kr p1 p2 p3 n v5 S0 = some out → V E (QR E none (wdM E.G a0 out)) (wdM E.G a0 S0) 91 [(0, .ref (a0 0)), (1, .int p1), (2, .int p2), (3, .long p3), (5, .int v5)] [] := by
  intro n
  induction n with
  | zero =>
    intro v5 S0 h
    cases h
  | succ n ih =>
    intro v5 S0 h
    unfold fX5_draughts_L91 at h
    refine V_pb C hn [(.iload 5, 2), (.bipush 16, 2)] (pc' := 95) (ls' := [(0, .ref (a0 0)), (1, .int p1), (2, .int p2), (3, .long p3), (5, .int v5)]) (st' := [.int (16 : Int32), .int v5]) (decB_ok (by decide +kernel)) rfl rfl ?_
    refine V_ic_ge C (off := 132) (tgt := 227) (by decide +kernel) (by decide) h (fun _ h => ?_) (fun _ h => ?_)
    · have h := Option.some.inj h
      subst h
      exact V_vret C (by decide +kernel)
    · refine V_pb C hn [(.lload_n 3, 1), (.lstore 6, 2), (.iconst 0, 1), (.istore 8, 2)] (pc' := 104) (ls' := [(0, .ref (a0 0)), (1, .int p1), (2, .int p2), (3, .long p3), (5, .int v5), (6, .long p3), (8, .int (0 : Int32))]) (st' := []) (decB_ok (by decide +kernel)) rfl rfl ?_
      refine V_sub (ls' := [(0, .ref (a0 0)), (1, .int p1), (2, .int p2), (3, .long p3), (5, .int v5), (6, .long p3), (8, .int (0 : Int32))]) rfl ?_
      exact cfX5_draughts_L104 C hn ihd (k91 := (fun v5 S0 => fX5_draughts_L91 kr p1 p2 p3 n v5 S0)) (fun v5 S0 h => ih v5 S0 h) FU _ _ _ _ h
set_option maxRecDepth 100000 in
set_option maxHeartbeats 400000 in
theorem cfX5_draughts_L54 {d : Nat} {kr : Int32 → Int32 → Int64 → MT → Option (MT)} {E : VE} (C : Ctx E cX5_draughts RX5 (8 + 2 * (d + 1)) none) (hn : E.nL = 9) (ihd : ∀ (a0 : Nat → Nat) (p1 : Int32) (p2 : Int32) (p3 : Int64) (S0 : MT) (out : MT), kr p1 p2 p3 S0 = some out → Con E.l E.G (8 + 2 * d) yX5_draughts cX5_draughts 9 none [.ref (a0 0), .int p1, .int p2, .long p3] (wdM E.G a0 S0) none (wdM E.G a0 out)) {a0 : Nat → Nat} {p1 : Int32} {p2 : Int32} {p3 : Int64} {out : MT} : ∀ (n : Nat) (v5 : Int32) (S0 : MT), fX5_draughts_L54 kr p1 p2 p3 n v5 S0 = some out → V E (QR E none (wdM E.G a0 out)) (wdM E.G a0 S0) 54 [(0, .ref (a0 0)), (1, .int p1), (2, .int p2), (3, .long p3), (5, .int v5)] [] := by
  intro n
  induction n with
  | zero =>
    intro v5 S0 h
    cases h
  | succ n ih =>
    intro v5 S0 h
    unfold fX5_draughts_L54 at h
    refine V_pb C hn [(.iload 5, 2), (.aload_n 0, 1)] (pc' := 57) (ls' := [(0, .ref (a0 0)), (1, .int p1), (2, .int p2), (3, .long p3), (5, .int v5)]) (st' := [.ref (a0 0), .int v5]) (decB_ok (by decide +kernel)) rfl rfl ?_
    refine V_get C (v := .int (m_motes S0)) (by decide +kernel) 0 1 fk_RX5_60 rfl rfl ?_
    refine V_ic_ge C (off := 28) (tgt := 88) (by decide +kernel) (by decide) h (fun _ h => ?_) (fun _ h => ?_)
    · refine V_pb C hn [(.iconst 0, 1), (.istore 5, 2)] (pc' := 91) (ls' := [(0, .ref (a0 0)), (1, .int p1), (2, .int p2), (3, .long p3), (5, .int (0 : Int32))]) (st' := []) (decB_ok (by decide +kernel)) rfl rfl ?_
      refine V_sub (ls' := [(0, .ref (a0 0)), (1, .int p1), (2, .int p2), (3, .long p3), (5, .int (0 : Int32))]) rfl ?_
      exact cfX5_draughts_L91 C hn ihd FU _ _ h
    · refine V_pb C hn [(.aload_n 0, 1)] (pc' := 64) (ls' := [(0, .ref (a0 0)), (1, .int p1), (2, .int p2), (3, .long p3), (5, .int v5)]) (st' := [.ref (a0 0)]) (decB_ok (by decide +kernel)) rfl rfl ?_
      refine V_get C (v := .ref (a0 13)) (by decide +kernel) 0 23 fk_RX5_47 rfl rfl ?_
      refine V_pb C hn [(.bipush 10, 2), (.iload_n 1, 1), (.imul, 1), (.iload 5, 2), (.iadd, 1), (.aload_n 0, 1)] (pc' := 75) (ls' := [(0, .ref (a0 0)), (1, .int p1), (2, .int p2), (3, .long p3), (5, .int v5)]) (st' := [.ref (a0 0), .int (((10 : Int32) * p1) + v5), .ref (a0 13)]) (decB_ok (by decide +kernel)) rfl rfl ?_
      refine V_get C (v := .ref (a0 3)) (by decide +kernel) 0 4 fk_RX5_16 rfl rfl ?_
      refine V_pb C hn [(.iload 5, 2)] (pc' := 80) (ls' := [(0, .ref (a0 0)), (1, .int p1), (2, .int p2), (3, .long p3), (5, .int v5)]) (st' := [.int v5, .ref (a0 3), .int (((10 : Int32) * p1) + v5), .ref (a0 13)]) (decB_ok (by decide +kernel)) rfl rfl ?_
      refine V_iald C (f := (m_cell S0)) (by decide +kernel) 3 rfl h (fun h => ?_)
      obtain ⟨x31, e32, h⟩ := bnd h
      refine V_topi e32 ?_
      obtain ⟨x33, e34, h⟩ := bnd h
      refine V_top2 e34 ?_
      obtain ⟨hb9, h⟩ := gd_some h
      obtain ⟨w35, e36, h⟩ := bnd h
      refine V_iast C (f := (m_stackCell S0)) (ws' := wdM E.G a0 w35) (by decide +kernel) 13 rfl (o := some ()) (out := ()) (by rw [hb9]; rfl) (by cases e36; rfl) (fun _ => ?_)
      refine V_pb C hn [(.iinc 5 1, 3)] (pc' := 85) (ls' := [(0, .ref (a0 0)), (1, .int p1), (2, .int p2), (3, .long p3), (5, .int (v5 + (1 : Int32)))]) (st' := []) (decB_ok (by decide +kernel)) rfl rfl ?_
      refine V_goto C (off := -31) (tgt := 54) (by decide +kernel) (by decide) ?_
      refine V_sub (ls' := [(0, .ref (a0 0)), (1, .int p1), (2, .int p2), (3, .long p3), (5, .int (v5 + (1 : Int32)))]) rfl ?_
      exact ih _ _ h
set_option maxRecDepth 100000 in
set_option maxHeartbeats 400000 in
theorem cfX5_draughts_all {l : Launch} {G : GG} : ∀ d : Nat, ∀ (a0 : Nat → Nat) (p1 : Int32) (p2 : Int32) (p3 : Int64) (S0 : MT) (out : MT), fX5_draughts d p1 p2 p3 S0 = some out → Con l G (8 + 2 * d) yX5_draughts cX5_draughts 9 none [.ref (a0 0), .int p1, .int p2, .long p3] (wdM G a0 S0) none (wdM G a0 out) := by
  intro d
  induction d with
  | zero =>
    intro a0 p1 p2 p3 S0 out h
    cases h
  | succ d ihd =>
    intro a0 p1 p2 p3 S0 out h
    refine Con_of (by decide +kernel) (Nat.le_of_ble_eq_true rfl) (fun E hl hG hn C => ?_)
    subst hl
    subst hG
    have C : Ctx E cX5_draughts RX5 (8 + 2 * (d + 1)) none := C
    show V E _ _ 0 [(0, .ref (a0 0)), (1, .int p1), (2, .int p2), (3, .long p3)] []
    unfold fX5_draughts at h
    refine V_pb C hn [(.iload_n 1, 1), (.iload_n 2, 1)] (pc' := 2) (ls' := [(0, .ref (a0 0)), (1, .int p1), (2, .int p2), (3, .long p3)]) (st' := [.int p2, .int p1]) (decB_ok (by decide +kernel)) rfl rfl ?_
    refine V_ic_ne C (off := 37) (tgt := 39) (by decide +kernel) (by decide) h (fun _ h => ?_) (fun _ h => ?_)
    · refine V_pb C hn [(.aload_n 0, 1), (.dup, 1)] (pc' := 7) (ls' := [(0, .ref (a0 0)), (1, .int p1), (2, .int p2), (3, .long p3)]) (st' := [.ref (a0 0), .ref (a0 0)]) (decB_ok (by decide +kernel)) rfl rfl ?_
      refine V_get C (v := .long (m_meanVotes S0)) (by decide +kernel) 0 26 fk_RX5_308 rfl rfl ?_
      refine V_pb C hn [(.lload_n 3, 1), (.aload_n 0, 1)] (pc' := 12) (ls' := [(0, .ref (a0 0)), (1, .int p1), (2, .int p2), (3, .long p3)]) (st' := [.ref (a0 0), .long p3, .long (m_meanVotes S0), .ref (a0 0)]) (decB_ok (by decide +kernel)) rfl rfl ?_
      obtain ⟨q1, h2, h⟩ := bnd h
      refine V_callV0 C (As := []) (rest := [.long p3, .long (m_meanVotes S0), .ref (a0 0)]) (by decide +kernel) ok_yX5_votesNow mk_RX5_213 (cfX5_votesNow (l := E.l) (G := E.G) a0 h2) (q0 := 0) rfl rfl rfl rfl rfl rfl (by omega) (Nat.le_of_ble_eq_true rfl) (Nat.le_of_ble_eq_true rfl) ?_
      show V E _ (wdM E.G a0 S0) 15 [(0, .ref (a0 0)), (1, .int p1), (2, .int p2), (3, .long p3)] [.int q1, .long p3, .long (m_meanVotes S0), .ref (a0 0)]
      refine V_pb C hn [(.i2l, 1), (.lmul, 1), (.ladd, 1)] (pc' := 18) (ls' := [(0, .ref (a0 0)), (1, .int p1), (2, .int p2), (3, .long p3)]) (st' := [.long ((m_meanVotes S0) + (p3 * q1.toInt64)), .ref (a0 0)]) (decB_ok (by decide +kernel)) rfl rfl ?_
      obtain ⟨x3, e4, h⟩ := bnd h
      refine V_topl e4 ?_
      obtain ⟨w5, e6, h⟩ := bnd h
      refine V_put C (v := .long x3) (ws' := wdM E.G a0 w5) (by decide +kernel) 0 26 pk_RX5_308 rfl rfl rfl (Nat.le_of_ble_eq_true rfl) (by cases e6; rfl) ?_
      refine V_pb C hn [(.aload_n 0, 1)] (pc' := 22) (ls' := [(0, .ref (a0 0)), (1, .int p1), (2, .int p2), (3, .long p3)]) (st' := [.ref (a0 0)]) (decB_ok (by decide +kernel)) rfl rfl ?_
      obtain ⟨q7, h8, h⟩ := bnd h
      refine V_callV0 C (As := []) (rest := []) (by decide +kernel) ok_yX5_doesCarry mk_RX5_244 (cfX5_doesCarry (l := E.l) (G := E.G) a0 h8) (q0 := 0) rfl rfl rfl rfl rfl rfl (by omega) (Nat.le_of_ble_eq_true rfl) (Nat.le_of_ble_eq_true rfl) ?_
      show V E _ (wdM E.G a0 w5) 25 [(0, .ref (a0 0)), (1, .int p1), (2, .int p2), (3, .long p3)] [.int q7]
      refine V_if_eq C (off := 13) (tgt := 38) (by decide +kernel) (by decide) h (fun _ h => ?_) (fun _ h => ?_)
      · have h := Option.some.inj h
        subst h
        exact V_vret C (by decide +kernel)
      · refine V_pb C hn [(.aload_n 0, 1), (.dup, 1)] (pc' := 30) (ls' := [(0, .ref (a0 0)), (1, .int p1), (2, .int p2), (3, .long p3)]) (st' := [.ref (a0 0), .ref (a0 0)]) (decB_ok (by decide +kernel)) rfl rfl ?_
        refine V_get C (v := .long (m_carried w5)) (by decide +kernel) 0 25 fk_RX5_312 rfl rfl ?_
        refine V_pb C hn [(.lload_n 3, 1), (.ladd, 1)] (pc' := 35) (ls' := [(0, .ref (a0 0)), (1, .int p1), (2, .int p2), (3, .long p3)]) (st' := [.long ((m_carried w5) + p3), .ref (a0 0)]) (decB_ok (by decide +kernel)) rfl rfl ?_
        obtain ⟨x9, e10, h⟩ := bnd h
        refine V_topl e10 ?_
        obtain ⟨w11, e12, h⟩ := bnd h
        refine V_put C (v := .long x9) (ws' := wdM E.G a0 w11) (by decide +kernel) 0 25 pk_RX5_312 rfl rfl rfl (Nat.le_of_ble_eq_true rfl) (by cases e12; rfl) ?_
        have h := Option.some.inj h
        subst h
        exact V_vret C (by decide +kernel)
    · refine V_pb C hn [(.aload_n 0, 1)] (pc' := 40) (ls' := [(0, .ref (a0 0)), (1, .int p1), (2, .int p2), (3, .long p3)]) (st' := [.ref (a0 0)]) (decB_ok (by decide +kernel)) rfl rfl ?_
      refine V_get C (v := .ref (a0 14)) (by decide +kernel) 0 24 fk_RX5_50 rfl rfl ?_
      refine V_pb C hn [(.iload_n 1, 1), (.aload_n 0, 1)] (pc' := 45) (ls' := [(0, .ref (a0 0)), (1, .int p1), (2, .int p2), (3, .long p3)]) (st' := [.ref (a0 0), .int p1, .ref (a0 14)]) (decB_ok (by decide +kernel)) rfl rfl ?_
      refine V_get C (v := .ref (a0 4)) (by decide +kernel) 0 6 fk_RX5_19 rfl rfl ?_
      refine V_pb C hn [(.iconst 2, 1)] (pc' := 49) (ls' := [(0, .ref (a0 0)), (1, .int p1), (2, .int p2), (3, .long p3)]) (st' := [.int (2 : Int32), .ref (a0 4), .int p1, .ref (a0 14)]) (decB_ok (by decide +kernel)) rfl rfl ?_
      refine V_iald C (f := (m_ways S0)) (by decide +kernel) 4 rfl h (fun h => ?_)
      obtain ⟨x13, e14, h⟩ := bnd h
      refine V_topi e14 ?_
      obtain ⟨hb9, h⟩ := gd_some h
      obtain ⟨w15, e16, h⟩ := bnd h
      refine V_iast C (f := (m_stackHour S0)) (ws' := wdM E.G a0 w15) (by decide +kernel) 14 rfl (o := some ()) (out := ()) (by rw [hb9]; rfl) (by cases e16; rfl) (fun _ => ?_)
      refine V_pb C hn [(.iconst 0, 1), (.istore 5, 2)] (pc' := 54) (ls' := [(0, .ref (a0 0)), (1, .int p1), (2, .int p2), (3, .long p3), (5, .int (0 : Int32))]) (st' := []) (decB_ok (by decide +kernel)) rfl rfl ?_
      refine V_sub (ls' := [(0, .ref (a0 0)), (1, .int p1), (2, .int p2), (3, .long p3), (5, .int (0 : Int32))]) rfl ?_
      exact cfX5_draughts_L54 C hn ihd FU _ _ h
set_option maxRecDepth 100000 in
set_option maxHeartbeats 4000000 in
theorem cfX5_odds_j18 {E : VE} (C : Ctx E cX5_odds RX5 19 (some .int)) (hn : E.nL = 7) {a0 : Nat → Nat} {p1 : Int32} {p2 : Int32} {S0 : MT} {out : Int32 × MT} (h : fX5_odds_j18 p1 p2 S0 = some out) : V E (QR E (some (.int out.1)) (wdM E.G a0 out.2)) (wdM E.G a0 S0) 18 [(0, .ref (a0 0))] [] := by
  unfold fX5_odds_j18 at h
  refine V_pb C hn [(.aload_n 0, 1), (.bipush (-2), 2)] (pc' := 21) (ls' := [(0, .ref (a0 0))]) (st' := [.int (cI (-2)), .ref (a0 0)]) (decB_ok (by decide +kernel)) rfl rfl ?_
  obtain ⟨q3, h4, h⟩ := bnd h
  refine V_callV0 C (As := [.int (cI (-2))]) (rest := []) (by decide +kernel) ok_yX5_no mk_RX5_77 (cfX5_no (l := E.l) (G := E.G) a0 h4) (q0 := 0) rfl rfl rfl rfl rfl rfl (Nat.le_of_ble_eq_true rfl) (Nat.le_of_ble_eq_true rfl) (Nat.le_of_ble_eq_true rfl) ?_
  show V E _ (wdM E.G a0 q3.2) 24 [(0, .ref (a0 0))] [.int q3.1]
  have h := Option.some.inj h
  subst h
  exact V_iret C (by decide +kernel) rfl
set_option maxRecDepth 100000 in
set_option maxHeartbeats 4000000 in
theorem cfX5_odds_j80 {E : VE} (C : Ctx E cX5_odds RX5 19 (some .int)) (hn : E.nL = 7) {a0 : Nat → Nat} {p1 : Int32} {p2 : Int32} {v4 : Int64} {S0 : MT} {out : Int32 × MT} (h : fX5_odds_j80 p1 p2 v4 S0 = some out) : V E (QR E (some (.int out.1)) (wdM E.G a0 out.2)) (wdM E.G a0 S0) 80 [(0, .ref (a0 0)), (2, .int p2), (4, .long v4)] [] := by
  unfold fX5_odds_j80 at h
  refine V_pb C hn [(.iload_n 2, 1)] (pc' := 81) (ls' := [(0, .ref (a0 0)), (2, .int p2), (4, .long v4)]) (st' := [.int p2]) (decB_ok (by decide +kernel)) rfl rfl ?_
  refine V_if_ne C (off := 17) (tgt := 98) (by decide +kernel) (by decide) h (fun _ h => ?_) (fun _ h => ?_)
  · refine V_ldc2 C (by decide +kernel) kk_RX5_321 ?_
    refine V_pb C hn [(.aload_n 0, 1)] (pc' := 88) (ls' := [(0, .ref (a0 0)), (2, .int p2), (4, .long v4)]) (st' := [.ref (a0 0), .long (1000000 : Int64)]) (decB_ok (by decide +kernel)) rfl rfl ?_
    refine V_get C (v := .long (m_carried S0)) (by decide +kernel) 0 25 fk_RX5_312 rfl rfl ?_
    refine V_pb C hn [(.lmul, 1), (.lload 4, 2)] (pc' := 94) (ls' := [(0, .ref (a0 0)), (2, .int p2), (4, .long v4)]) (st' := [.long v4, .long ((1000000 : Int64) * (m_carried S0))]) (decB_ok (by decide +kernel)) rfl rfl ?_
    obtain ⟨hd15, h⟩ := dv_some h
    refine V_ldiv C (by decide +kernel) hd15 ?_
    refine V_goto C (off := 14) (tgt := 109) (by decide +kernel) (by decide) ?_
    refine V_pb C hn [(.l2i, 1)] (pc' := 110) (ls' := [(0, .ref (a0 0)), (2, .int p2), (4, .long v4)]) (st' := [.int (((1000000 : Int64) * (m_carried S0)) / v4).toInt32]) (decB_ok (by decide +kernel)) rfl rfl ?_
    have h := Option.some.inj h
    subst h
    exact V_iret C (by decide +kernel) rfl
  · refine V_ldc2 C (by decide +kernel) kk_RX5_323 ?_
    refine V_pb C hn [(.aload_n 0, 1)] (pc' := 102) (ls' := [(0, .ref (a0 0)), (2, .int p2), (4, .long v4)]) (st' := [.ref (a0 0), .long (1000 : Int64)]) (decB_ok (by decide +kernel)) rfl rfl ?_
    refine V_get C (v := .long (m_meanVotes S0)) (by decide +kernel) 0 26 fk_RX5_308 rfl rfl ?_
    refine V_pb C hn [(.lmul, 1), (.lload 4, 2)] (pc' := 108) (ls' := [(0, .ref (a0 0)), (2, .int p2), (4, .long v4)]) (st' := [.long v4, .long ((1000 : Int64) * (m_meanVotes S0))]) (decB_ok (by decide +kernel)) rfl rfl ?_
    obtain ⟨hd16, h⟩ := dv_some h
    refine V_ldiv C (by decide +kernel) hd16 ?_
    refine V_pb C hn [(.l2i, 1)] (pc' := 110) (ls' := [(0, .ref (a0 0)), (2, .int p2), (4, .long v4)]) (st' := [.int (((1000 : Int64) * (m_meanVotes S0)) / v4).toInt32]) (decB_ok (by decide +kernel)) rfl rfl ?_
    have h := Option.some.inj h
    subst h
    exact V_iret C (by decide +kernel) rfl
set_option maxRecDepth 100000 in
set_option maxHeartbeats 4000000 in
theorem cfX5_odds_L58 {E : VE} (C : Ctx E cX5_odds RX5 19 (some .int)) (hn : E.nL = 7) {a0 : Nat → Nat} {p1 : Int32} {p2 : Int32} {out : Int32 × MT} : ∀ (n : Nat) (v4 : Int64) (v6 : Int32) (S0 : MT), fX5_odds_L58 p1 p2 n v4 v6 S0 = some out → V E (QR E (some (.int out.1)) (wdM E.G a0 out.2)) (wdM E.G a0 S0) 58 [(0, .ref (a0 0)), (1, .int p1), (2, .int p2), (4, .long v4), (6, .int v6)] [] := by
  intro n
  induction n with
  | zero =>
    intro v4 v6 S0 h
    cases h
  | succ n ih =>
    intro v4 v6 S0 h
    unfold fX5_odds_L58 at h
    refine V_pb C hn [(.iload 6, 2), (.iconst 4, 1), (.iload_n 1, 1), (.imul, 1)] (pc' := 63) (ls' := [(0, .ref (a0 0)), (1, .int p1), (2, .int p2), (4, .long v4), (6, .int v6)]) (st' := [.int ((4 : Int32) * p1), .int v6]) (decB_ok (by decide +kernel)) rfl rfl ?_
    refine V_ic_ge C (off := 17) (tgt := 80) (by decide +kernel) (by decide) h (fun _ h => ?_) (fun _ h => ?_)
    · refine V_sub (ls' := [(0, .ref (a0 0)), (2, .int p2), (4, .long v4)]) rfl ?_
      exact cfX5_odds_j80 C hn h
    · refine V_pb C hn [(.lload 4, 2)] (pc' := 68) (ls' := [(0, .ref (a0 0)), (1, .int p1), (2, .int p2), (4, .long v4), (6, .int v6)]) (st' := [.long v4]) (decB_ok (by decide +kernel)) rfl rfl ?_
      refine V_ldc2 C (by decide +kernel) kk_RX5_319 ?_
      refine V_pb C hn [(.lmul, 1), (.lstore 4, 2), (.iinc 6 1, 3)] (pc' := 77) (ls' := [(0, .ref (a0 0)), (1, .int p1), (2, .int p2), (4, .long (v4 * (12 : Int64))), (6, .int (v6 + (1 : Int32)))]) (st' := []) (decB_ok (by decide +kernel)) rfl rfl ?_
      refine V_goto C (off := -19) (tgt := 58) (by decide +kernel) (by decide) ?_
      refine V_sub (ls' := [(0, .ref (a0 0)), (1, .int p1), (2, .int p2), (4, .long (v4 * (12 : Int64))), (6, .int (v6 + (1 : Int32)))]) rfl ?_
      exact ih _ _ _ h
set_option maxRecDepth 100000 in
set_option maxHeartbeats 4000000 in
theorem cfX5_odds {l : Launch} {G : GG} (a0 : Nat → Nat) {p1 : Int32} {p2 : Int32} {S0 : MT} {out : Int32 × MT} (h : fX5_odds p1 p2 S0 = some out) : Con l G 19 yX5_odds cX5_odds 7 (some .int) [.ref (a0 0), .int p1, .int p2] (wdM G a0 S0) (some (.int out.1)) (wdM G a0 out.2) := by
  refine Con_of (by decide +kernel) (Nat.le_of_ble_eq_true rfl) (fun E hl hG hn C => ?_)
  subst hl
  subst hG
  have C : Ctx E cX5_odds RX5 19 (some .int) := C
  show V E _ _ 0 [(0, .ref (a0 0)), (1, .int p1), (2, .int p2)] []
  unfold fX5_odds at h
  refine V_pb C hn [(.iload_n 1, 1), (.iconst 0, 1), (.iconst 3, 1)] (pc' := 3) (ls' := [(0, .ref (a0 0)), (1, .int p1), (2, .int p2)]) (st' := [.int (3 : Int32), .int (0 : Int32), .int p1]) (decB_ok (by decide +kernel)) rfl rfl ?_
  obtain ⟨q1, h2, h⟩ := bnd h
  refine V_callSp C (As := [.int p1, .int (0 : Int32), .int (3 : Int32)]) (rest := []) (by decide +kernel) ok_yX5_within mk_RX5_63 (cfX5_within (l := E.l) (G := E.G) h2) [] rfl rfl rfl rfl (Nat.le_of_ble_eq_true rfl) (Nat.le_of_ble_eq_true rfl) (Nat.le_of_ble_eq_true rfl) ?_
  show V E _ (wdM E.G a0 S0) 6 [(0, .ref (a0 0)), (1, .int p1), (2, .int p2)] [.int q1]
  refine V_if_eq C (off := 12) (tgt := 18) (by decide +kernel) (by decide) h (fun _ h => ?_) (fun _ h => ?_)
  · refine V_sub (ls' := [(0, .ref (a0 0))]) rfl ?_
    exact cfX5_odds_j18 C hn h
  · refine V_pb C hn [(.iload_n 2, 1), (.iconst 0, 1), (.iconst 1, 1)] (pc' := 12) (ls' := [(0, .ref (a0 0)), (1, .int p1), (2, .int p2)]) (st' := [.int (1 : Int32), .int (0 : Int32), .int p2]) (decB_ok (by decide +kernel)) rfl rfl ?_
    obtain ⟨q5, h6, h⟩ := bnd h
    refine V_callSp C (As := [.int p2, .int (0 : Int32), .int (1 : Int32)]) (rest := []) (by decide +kernel) ok_yX5_within mk_RX5_63 (cfX5_within (l := E.l) (G := E.G) h6) [] rfl rfl rfl rfl (Nat.le_of_ble_eq_true rfl) (Nat.le_of_ble_eq_true rfl) (Nat.le_of_ble_eq_true rfl) ?_
    show V E _ (wdM E.G a0 S0) 15 [(0, .ref (a0 0)), (1, .int p1), (2, .int p2)] [.int q5]
    refine V_if_ne C (off := 10) (tgt := 25) (by decide +kernel) (by decide) h (fun _ h => ?_) (fun _ h => ?_)
    · refine V_sub (ls' := [(0, .ref (a0 0))]) rfl ?_
      exact cfX5_odds_j18 C hn h
    · refine V_pb C hn [(.aload_n 0, 1)] (pc' := 26) (ls' := [(0, .ref (a0 0)), (1, .int p1), (2, .int p2)]) (st' := [.ref (a0 0)]) (decB_ok (by decide +kernel)) rfl rfl ?_
      refine V_get C (v := .int (m_doors S0)) (by decide +kernel) 0 5 fk_RX5_109 rfl rfl ?_
      refine V_pb C hn [(.istore_n 3, 1), (.aload_n 0, 1), (.lconst 0, 1)] (pc' := 32) (ls' := [(0, .ref (a0 0)), (1, .int p1), (2, .int p2), (3, .int (m_doors S0))]) (st' := [.long (0 : Int64), .ref (a0 0)]) (decB_ok (by decide +kernel)) rfl rfl ?_
      obtain ⟨w7, e8, h⟩ := bnd h
      refine V_put C (v := .long (0 : Int64)) (ws' := wdM E.G a0 w7) (by decide +kernel) 0 25 pk_RX5_312 rfl rfl rfl (Nat.le_of_ble_eq_true rfl) (by cases e8; rfl) ?_
      refine V_pb C hn [(.aload_n 0, 1), (.lconst 0, 1)] (pc' := 37) (ls' := [(0, .ref (a0 0)), (1, .int p1), (2, .int p2), (3, .int (m_doors S0))]) (st' := [.long (0 : Int64), .ref (a0 0)]) (decB_ok (by decide +kernel)) rfl rfl ?_
      obtain ⟨w9, e10, h⟩ := bnd h
      refine V_put C (v := .long (0 : Int64)) (ws' := wdM E.G a0 w9) (by decide +kernel) 0 26 pk_RX5_308 rfl rfl rfl (Nat.le_of_ble_eq_true rfl) (by cases e10; rfl) ?_
      refine V_pb C hn [(.aload_n 0, 1), (.iconst 0, 1), (.iload_n 1, 1), (.lconst 1, 1)] (pc' := 44) (ls' := [(0, .ref (a0 0)), (1, .int p1), (2, .int p2), (3, .int (m_doors S0))]) (st' := [.long (1 : Int64), .int p1, .int (0 : Int32), .ref (a0 0)]) (decB_ok (by decide +kernel)) rfl rfl ?_
      obtain ⟨q11, h12, h⟩ := bnd h
      refine V_callV0 C (As := [.int (0 : Int32), .int p1, .long (1 : Int64)]) (rest := []) (by decide +kernel) ok_yX5_draughts mk_RX5_315 (cfX5_draughts_all (l := E.l) (G := E.G) 5 a0 _ _ _ _ _ h12) (q0 := 0) rfl rfl rfl rfl rfl rfl (Nat.le_of_ble_eq_true rfl) (Nat.le_of_ble_eq_true rfl) (Nat.le_of_ble_eq_true rfl) ?_
      show V E _ (wdM E.G a0 q11) 47 [(0, .ref (a0 0)), (1, .int p1), (2, .int p2), (3, .int (m_doors S0))] []
      refine V_pb C hn [(.aload_n 0, 1), (.iload_n 3, 1)] (pc' := 49) (ls' := [(0, .ref (a0 0)), (1, .int p1), (2, .int p2), (3, .int (m_doors S0))]) (st' := [.int (m_doors S0), .ref (a0 0)]) (decB_ok (by decide +kernel)) rfl rfl ?_
      obtain ⟨w13, e14, h⟩ := bnd h
      refine V_put C (v := .int (m_doors S0)) (ws' := wdM E.G a0 w13) (by decide +kernel) 0 5 pk_RX5_109 rfl rfl rfl (Nat.le_of_ble_eq_true rfl) (by cases e14; rfl) ?_
      refine V_pb C hn [(.lconst 1, 1), (.lstore 4, 2), (.iconst 0, 1), (.istore 6, 2)] (pc' := 58) (ls' := [(0, .ref (a0 0)), (1, .int p1), (2, .int p2), (3, .int (m_doors S0)), (4, .long (1 : Int64)), (6, .int (0 : Int32))]) (st' := []) (decB_ok (by decide +kernel)) rfl rfl ?_
      refine V_sub (ls' := [(0, .ref (a0 0)), (1, .int p1), (2, .int p2), (4, .long (1 : Int64)), (6, .int (0 : Int32))]) rfl ?_
      exact cfX5_odds_L58 C hn FU _ _ _ h
set_option maxRecDepth 100000 in
set_option maxHeartbeats 400000 in
theorem cfX5_first_j75 {E : VE} (C : Ctx E cX5_first RX5 2 (some .int)) (hn : E.nL = 6) {a0 : Nat → Nat} {p1 : Int32} {v2 : Int32} {S0 : MT} {out : Int32 × MT} (h : fX5_first_j75 p1 v2 S0 = some out) : V E (QR E (some (.int out.1)) (wdM E.G a0 out.2)) (wdM E.G a0 S0) 75 [(0, .ref (a0 0)), (2, .int v2)] [] := by
  unfold fX5_first_j75 at h
  refine V_pb C hn [(.iload_n 2, 1), (.iconst (-1), 1)] (pc' := 77) (ls' := [(0, .ref (a0 0)), (2, .int v2)]) (st' := [.int (cI (-1)), .int v2]) (decB_ok (by decide +kernel)) rfl rfl ?_
  refine V_ic_ne C (off := 12) (tgt := 89) (by decide +kernel) (by decide) h (fun _ h => ?_) (fun _ h => ?_)
  · refine V_pb C hn [(.aload_n 0, 1), (.bipush (-5), 2)] (pc' := 83) (ls' := [(0, .ref (a0 0)), (2, .int v2)]) (st' := [.int (cI (-5)), .ref (a0 0)]) (decB_ok (by decide +kernel)) rfl rfl ?_
    obtain ⟨q5, h6, h⟩ := bnd h
    refine V_callV0 C (As := [.int (cI (-5))]) (rest := []) (by decide +kernel) ok_yX5_no mk_RX5_77 (cfX5_no (l := E.l) (G := E.G) a0 h6) (q0 := 0) rfl rfl rfl rfl rfl rfl (Nat.le_of_ble_eq_true rfl) (Nat.le_of_ble_eq_true rfl) (Nat.le_of_ble_eq_true rfl) ?_
    show V E _ (wdM E.G a0 q5.2) 86 [(0, .ref (a0 0)), (2, .int v2)] [.int q5.1]
    refine V_goto C (off := 4) (tgt := 90) (by decide +kernel) (by decide) ?_
    have h := Option.some.inj h
    subst h
    exact V_iret C (by decide +kernel) rfl
  · refine V_pb C hn [(.iload_n 2, 1)] (pc' := 90) (ls' := [(0, .ref (a0 0)), (2, .int v2)]) (st' := [.int v2]) (decB_ok (by decide +kernel)) rfl rfl ?_
    have h := Option.some.inj h
    subst h
    exact V_iret C (by decide +kernel) rfl
set_option maxRecDepth 100000 in
set_option maxHeartbeats 400000 in
theorem cfX5_first_j69 {E : VE} (C : Ctx E cX5_first RX5 2 (some .int)) (hn : E.nL = 6) {a0 : Nat → Nat} {p1 : Int32} {v2 : Int32} {v3 : Int32} {v4 : Int32} {S0 : MT} {out : Int32 × MT} {k23 : Int32 → Int32 → Int32 → MT → Option (Int32 × MT)} (hk23 : ∀ (v2 : Int32) (v3 : Int32) (v4 : Int32) (S0 : MT), k23 v2 v3 v4 S0 = some out → V E (QR E (some (.int out.1)) (wdM E.G a0 out.2)) (wdM E.G a0 S0) 23 [(0, .ref (a0 0)), (1, .int p1), (2, .int v2), (3, .int v3), (4, .int v4)] []) (h : fX5_first_j69 k23 p1 v2 v3 v4 S0 = some out) : V E (QR E (some (.int out.1)) (wdM E.G a0 out.2)) (wdM E.G a0 S0) 69 [(0, .ref (a0 0)), (1, .int p1), (2, .int v2), (3, .int v3), (4, .int v4)] [] := by
  unfold fX5_first_j69 at h
  refine V_pb C hn [(.iinc 4 1, 3)] (pc' := 72) (ls' := [(0, .ref (a0 0)), (1, .int p1), (2, .int v2), (3, .int v3), (4, .int (v4 + (1 : Int32)))]) (st' := []) (decB_ok (by decide +kernel)) rfl rfl ?_
  refine V_goto C (off := -49) (tgt := 23) (by decide +kernel) (by decide) ?_
  refine V_sub (ls' := [(0, .ref (a0 0)), (1, .int p1), (2, .int v2), (3, .int v3), (4, .int (v4 + (1 : Int32)))]) rfl ?_
  exact hk23 _ _ _ _ h
set_option maxRecDepth 100000 in
set_option maxHeartbeats 400000 in
theorem cfX5_first_j52 {E : VE} (C : Ctx E cX5_first RX5 2 (some .int)) (hn : E.nL = 6) {a0 : Nat → Nat} {p1 : Int32} {v2 : Int32} {v3 : Int32} {v4 : Int32} {s0 : Int32} {S0 : MT} {out : Int32 × MT} {k23 : Int32 → Int32 → Int32 → MT → Option (Int32 × MT)} (hk23 : ∀ (v2 : Int32) (v3 : Int32) (v4 : Int32) (S0 : MT), k23 v2 v3 v4 S0 = some out → V E (QR E (some (.int out.1)) (wdM E.G a0 out.2)) (wdM E.G a0 S0) 23 [(0, .ref (a0 0)), (1, .int p1), (2, .int v2), (3, .int v3), (4, .int v4)] []) (h : fX5_first_j52 k23 p1 v2 v3 v4 s0 S0 = some out) : V E (QR E (some (.int out.1)) (wdM E.G a0 out.2)) (wdM E.G a0 S0) 52 [(0, .ref (a0 0)), (1, .int p1), (2, .int v2), (3, .int v3), (4, .int v4)] [.int s0] := by
  unfold fX5_first_j52 at h
  refine V_pb C hn [(.istore 5, 2), (.iload 5, 2), (.iload_n 3, 1)] (pc' := 57) (ls' := [(0, .ref (a0 0)), (1, .int p1), (2, .int v2), (3, .int v3), (4, .int v4), (5, .int s0)]) (st' := [.int v3, .int s0]) (decB_ok (by decide +kernel)) rfl rfl ?_
  refine V_ic_gt C (off := 6) (tgt := 63) (by decide +kernel) (by decide) h (fun _ h => ?_) (fun _ h => ?_)
  · refine V_pb C hn [(.iload 5, 2), (.istore_n 3, 1), (.iload 4, 2), (.istore_n 2, 1)] (pc' := 69) (ls' := [(0, .ref (a0 0)), (1, .int p1), (2, .int v4), (3, .int s0), (4, .int v4), (5, .int s0)]) (st' := []) (decB_ok (by decide +kernel)) rfl rfl ?_
    refine V_sub (ls' := [(0, .ref (a0 0)), (1, .int p1), (2, .int v4), (3, .int s0), (4, .int v4)]) rfl ?_
    exact cfX5_first_j69 C hn (k23 := k23) (hk23) h
  · refine V_goto C (off := 9) (tgt := 69) (by decide +kernel) (by decide) ?_
    refine V_sub (ls' := [(0, .ref (a0 0)), (1, .int p1), (2, .int v2), (3, .int v3), (4, .int v4)]) rfl ?_
    exact cfX5_first_j69 C hn (k23 := k23) (hk23) h
set_option maxRecDepth 100000 in
set_option maxHeartbeats 400000 in
theorem cfX5_first_L23 {E : VE} (C : Ctx E cX5_first RX5 2 (some .int)) (hn : E.nL = 6) {a0 : Nat → Nat} {p1 : Int32} {out : Int32 × MT} : ∀ (n : Nat) (v2 : Int32) (v3 : Int32) (v4 : Int32) (S0 : MT), fX5_first_L23 p1 n v2 v3 v4 S0 = some out → V E (QR E (some (.int out.1)) (wdM E.G a0 out.2)) (wdM E.G a0 S0) 23 [(0, .ref (a0 0)), (1, .int p1), (2, .int v2), (3, .int v3), (4, .int v4)] [] := by
  intro n
  induction n with
  | zero =>
    intro v2 v3 v4 S0 h
    cases h
  | succ n ih =>
    intro v2 v3 v4 S0 h
    unfold fX5_first_L23 at h
    refine V_pb C hn [(.iload 4, 2), (.aload_n 0, 1)] (pc' := 26) (ls' := [(0, .ref (a0 0)), (1, .int p1), (2, .int v2), (3, .int v3), (4, .int v4)]) (st' := [.ref (a0 0), .int v4]) (decB_ok (by decide +kernel)) rfl rfl ?_
    refine V_get C (v := .int (m_motes S0)) (by decide +kernel) 0 1 fk_RX5_60 rfl rfl ?_
    refine V_ic_ge C (off := 46) (tgt := 75) (by decide +kernel) (by decide) h (fun _ h => ?_) (fun _ h => ?_)
    · refine V_sub (ls' := [(0, .ref (a0 0)), (2, .int v2)]) rfl ?_
      exact cfX5_first_j75 C hn h
    · refine V_pb C hn [(.iload_n 1, 1)] (pc' := 33) (ls' := [(0, .ref (a0 0)), (1, .int p1), (2, .int v2), (3, .int v3), (4, .int v4)]) (st' := [.int p1]) (decB_ok (by decide +kernel)) rfl rfl ?_
      refine V_if_ne C (off := 12) (tgt := 45) (by decide +kernel) (by decide) h (fun _ h => ?_) (fun _ h => ?_)
      · refine V_pb C hn [(.aload_n 0, 1), (.iload 4, 2)] (pc' := 39) (ls' := [(0, .ref (a0 0)), (1, .int p1), (2, .int v2), (3, .int v3), (4, .int v4)]) (st' := [.int v4, .ref (a0 0)]) (decB_ok (by decide +kernel)) rfl rfl ?_
        obtain ⟨q7, h8, h⟩ := bnd h
        refine V_callV0 C (As := [.int v4]) (rest := []) (by decide +kernel) ok_yX5_powerOf mk_RX5_238 (cfX5_powerOf (l := E.l) (G := E.G) a0 h8) (q0 := 0) rfl rfl rfl rfl rfl rfl (Nat.le_of_ble_eq_true rfl) (Nat.le_of_ble_eq_true rfl) (Nat.le_of_ble_eq_true rfl) ?_
        show V E _ (wdM E.G a0 S0) 42 [(0, .ref (a0 0)), (1, .int p1), (2, .int v2), (3, .int v3), (4, .int v4)] [.int q7]
        refine V_goto C (off := 10) (tgt := 52) (by decide +kernel) (by decide) ?_
        refine V_sub (ls' := [(0, .ref (a0 0)), (1, .int p1), (2, .int v2), (3, .int v3), (4, .int v4)]) rfl ?_
        exact cfX5_first_j52 C hn (k23 := (fun v2 v3 v4 S0 => fX5_first_L23 p1 n v2 v3 v4 S0)) (fun v2 v3 v4 S0 h => ih v2 v3 v4 S0 h) h
      · refine V_pb C hn [(.aload_n 0, 1)] (pc' := 46) (ls' := [(0, .ref (a0 0)), (1, .int p1), (2, .int v2), (3, .int v3), (4, .int v4)]) (st' := [.ref (a0 0)]) (decB_ok (by decide +kernel)) rfl rfl ?_
        refine V_get C (v := .ref (a0 2)) (by decide +kernel) 0 3 fk_RX5_13 rfl rfl ?_
        refine V_pb C hn [(.iload 4, 2)] (pc' := 51) (ls' := [(0, .ref (a0 0)), (1, .int p1), (2, .int v2), (3, .int v3), (4, .int v4)]) (st' := [.int v4, .ref (a0 2)]) (decB_ok (by decide +kernel)) rfl rfl ?_
        refine V_iald C (f := (m_own S0)) (by decide +kernel) 2 rfl h (fun h => ?_)
        refine V_sub (ls' := [(0, .ref (a0 0)), (1, .int p1), (2, .int v2), (3, .int v3), (4, .int v4)]) rfl ?_
        exact cfX5_first_j52 C hn (k23 := (fun v2 v3 v4 S0 => fX5_first_L23 p1 n v2 v3 v4 S0)) (fun v2 v3 v4 S0 h => ih v2 v3 v4 S0 h) h
set_option maxRecDepth 100000 in
set_option maxHeartbeats 400000 in
theorem cfX5_first {l : Launch} {G : GG} (a0 : Nat → Nat) {p1 : Int32} {S0 : MT} {out : Int32 × MT} (h : fX5_first p1 S0 = some out) : Con l G 2 yX5_first cX5_first 6 (some .int) [.ref (a0 0), .int p1] (wdM G a0 S0) (some (.int out.1)) (wdM G a0 out.2) := by
  refine Con_of (by decide +kernel) (Nat.le_of_ble_eq_true rfl) (fun E hl hG hn C => ?_)
  subst hl
  subst hG
  have C : Ctx E cX5_first RX5 2 (some .int) := C
  show V E _ _ 0 [(0, .ref (a0 0)), (1, .int p1)] []
  unfold fX5_first at h
  refine V_pb C hn [(.iload_n 1, 1), (.iconst 0, 1), (.iconst 1, 1)] (pc' := 3) (ls' := [(0, .ref (a0 0)), (1, .int p1)]) (st' := [.int (1 : Int32), .int (0 : Int32), .int p1]) (decB_ok (by decide +kernel)) rfl rfl ?_
  obtain ⟨q1, h2, h⟩ := bnd h
  refine V_callSp C (As := [.int p1, .int (0 : Int32), .int (1 : Int32)]) (rest := []) (by decide +kernel) ok_yX5_within mk_RX5_63 (cfX5_within (l := E.l) (G := E.G) h2) [] rfl rfl rfl rfl (Nat.le_of_ble_eq_true rfl) (Nat.le_of_ble_eq_true rfl) (Nat.le_of_ble_eq_true rfl) ?_
  show V E _ (wdM E.G a0 S0) 6 [(0, .ref (a0 0)), (1, .int p1)] [.int q1]
  refine V_if_ne C (off := 10) (tgt := 16) (by decide +kernel) (by decide) h (fun _ h => ?_) (fun _ h => ?_)
  · refine V_pb C hn [(.aload_n 0, 1), (.bipush (-2), 2)] (pc' := 12) (ls' := [(0, .ref (a0 0)), (1, .int p1)]) (st' := [.int (cI (-2)), .ref (a0 0)]) (decB_ok (by decide +kernel)) rfl rfl ?_
    obtain ⟨q3, h4, h⟩ := bnd h
    refine V_callV0 C (As := [.int (cI (-2))]) (rest := []) (by decide +kernel) ok_yX5_no mk_RX5_77 (cfX5_no (l := E.l) (G := E.G) a0 h4) (q0 := 0) rfl rfl rfl rfl rfl rfl (Nat.le_of_ble_eq_true rfl) (Nat.le_of_ble_eq_true rfl) (Nat.le_of_ble_eq_true rfl) ?_
    show V E _ (wdM E.G a0 q3.2) 15 [(0, .ref (a0 0)), (1, .int p1)] [.int q3.1]
    have h := Option.some.inj h
    subst h
    exact V_iret C (by decide +kernel) rfl
  · refine V_pb C hn [(.iconst (-1), 1), (.istore_n 2, 1), (.iconst (-1), 1), (.istore_n 3, 1), (.iconst 0, 1), (.istore 4, 2)] (pc' := 23) (ls' := [(0, .ref (a0 0)), (1, .int p1), (2, .int (cI (-1))), (3, .int (cI (-1))), (4, .int (0 : Int32))]) (st' := []) (decB_ok (by decide +kernel)) rfl rfl ?_
    refine V_sub (ls' := [(0, .ref (a0 0)), (1, .int p1), (2, .int (cI (-1))), (3, .int (cI (-1))), (4, .int (0 : Int32))]) rfl ?_
    exact cfX5_first_L23 C hn FU _ _ _ _ h
set_option maxRecDepth 100000 in
set_option maxHeartbeats 400000 in
theorem cfX5_crowdIn_j25 {E : VE} (C : Ctx E cX5_crowdIn RX5 0 (some .int)) (hn : E.nL = 4) {a0 : Nat → Nat} {p1 : Int32} {S0 : MT} {v2 : Int32} {v3 : Int32} {out : Int32} {k4 : Int32 → Int32 → Option (Int32)} (hk4 : ∀ (v2 : Int32) (v3 : Int32), k4 v2 v3 = some out → V E (QR E (some (.int out)) (wdM E.G a0 S0)) (wdM E.G a0 S0) 4 [(0, .ref (a0 0)), (1, .int p1), (2, .int v2), (3, .int v3)] []) (h : fX5_crowdIn_j25 k4 p1 S0 v2 v3 = some out) : V E (QR E (some (.int out)) (wdM E.G a0 S0)) (wdM E.G a0 S0) 25 [(0, .ref (a0 0)), (1, .int p1), (2, .int v2), (3, .int v3)] [] := by
  unfold fX5_crowdIn_j25 at h
  refine V_pb C hn [(.iinc 3 1, 3)] (pc' := 28) (ls' := [(0, .ref (a0 0)), (1, .int p1), (2, .int v2), (3, .int (v3 + (1 : Int32)))]) (st' := []) (decB_ok (by decide +kernel)) rfl rfl ?_
  refine V_goto C (off := -24) (tgt := 4) (by decide +kernel) (by decide) ?_
  refine V_sub (ls' := [(0, .ref (a0 0)), (1, .int p1), (2, .int v2), (3, .int (v3 + (1 : Int32)))]) rfl ?_
  exact hk4 _ _ h
set_option maxRecDepth 100000 in
set_option maxHeartbeats 400000 in
theorem cfX5_crowdIn_L4 {E : VE} (C : Ctx E cX5_crowdIn RX5 0 (some .int)) (hn : E.nL = 4) {a0 : Nat → Nat} {p1 : Int32} {S0 : MT} {out : Int32} : ∀ (n : Nat) (v2 : Int32) (v3 : Int32), fX5_crowdIn_L4 p1 S0 n v2 v3 = some out → V E (QR E (some (.int out)) (wdM E.G a0 S0)) (wdM E.G a0 S0) 4 [(0, .ref (a0 0)), (1, .int p1), (2, .int v2), (3, .int v3)] [] := by
  intro n
  induction n with
  | zero =>
    intro v2 v3 h
    cases h
  | succ n ih =>
    intro v2 v3 h
    unfold fX5_crowdIn_L4 at h
    refine V_pb C hn [(.iload_n 3, 1), (.aload_n 0, 1)] (pc' := 6) (ls' := [(0, .ref (a0 0)), (1, .int p1), (2, .int v2), (3, .int v3)]) (st' := [.ref (a0 0), .int v3]) (decB_ok (by decide +kernel)) rfl rfl ?_
    refine V_get C (v := .int (m_motes S0)) (by decide +kernel) 0 1 fk_RX5_60 rfl rfl ?_
    refine V_ic_ge C (off := 22) (tgt := 31) (by decide +kernel) (by decide) h (fun _ h => ?_) (fun _ h => ?_)
    · refine V_pb C hn [(.iload_n 2, 1)] (pc' := 32) (ls' := [(0, .ref (a0 0)), (1, .int p1), (2, .int v2), (3, .int v3)]) (st' := [.int v2]) (decB_ok (by decide +kernel)) rfl rfl ?_
      have h := Option.some.inj h
      subst h
      exact V_iret C (by decide +kernel) rfl
    · refine V_pb C hn [(.aload_n 0, 1)] (pc' := 13) (ls' := [(0, .ref (a0 0)), (1, .int p1), (2, .int v2), (3, .int v3)]) (st' := [.ref (a0 0)]) (decB_ok (by decide +kernel)) rfl rfl ?_
      refine V_get C (v := .ref (a0 3)) (by decide +kernel) 0 4 fk_RX5_16 rfl rfl ?_
      refine V_pb C hn [(.iload_n 3, 1)] (pc' := 17) (ls' := [(0, .ref (a0 0)), (1, .int p1), (2, .int v2), (3, .int v3)]) (st' := [.int v3, .ref (a0 3)]) (decB_ok (by decide +kernel)) rfl rfl ?_
      refine V_iald C (f := (m_cell S0)) (by decide +kernel) 3 rfl h (fun h => ?_)
      refine V_pb C hn [(.iload_n 1, 1)] (pc' := 19) (ls' := [(0, .ref (a0 0)), (1, .int p1), (2, .int v2), (3, .int v3)]) (st' := [.int p1, .int ((m_cell S0) (ix v3))]) (decB_ok (by decide +kernel)) rfl rfl ?_
      refine V_ic_ne C (off := 6) (tgt := 25) (by decide +kernel) (by decide) h (fun _ h => ?_) (fun _ h => ?_)
      · refine V_pb C hn [(.iinc 2 1, 3)] (pc' := 25) (ls' := [(0, .ref (a0 0)), (1, .int p1), (2, .int (v2 + (1 : Int32))), (3, .int v3)]) (st' := []) (decB_ok (by decide +kernel)) rfl rfl ?_
        refine V_sub (ls' := [(0, .ref (a0 0)), (1, .int p1), (2, .int (v2 + (1 : Int32))), (3, .int v3)]) rfl ?_
        exact cfX5_crowdIn_j25 C hn (k4 := (fun v2 v3 => fX5_crowdIn_L4 p1 S0 n v2 v3)) (fun v2 v3 h => ih v2 v3 h) h
      · refine V_sub (ls' := [(0, .ref (a0 0)), (1, .int p1), (2, .int v2), (3, .int v3)]) rfl ?_
        exact cfX5_crowdIn_j25 C hn (k4 := (fun v2 v3 => fX5_crowdIn_L4 p1 S0 n v2 v3)) (fun v2 v3 h => ih v2 v3 h) h
set_option maxRecDepth 100000 in
set_option maxHeartbeats 400000 in
theorem cfX5_crowdIn {l : Launch} {G : GG} (a0 : Nat → Nat) {p1 : Int32} {S0 : MT} {out : Int32} (h : fX5_crowdIn p1 S0 = some out) : Con l G 0 yX5_crowdIn cX5_crowdIn 4 (some .int) [.ref (a0 0), .int p1] (wdM G a0 S0) (some (.int out)) (wdM G a0 S0) := by
  refine Con_of (by decide +kernel) (Nat.le_of_ble_eq_true rfl) (fun E hl hG hn C => ?_)
  subst hl
  subst hG
  have C : Ctx E cX5_crowdIn RX5 0 (some .int) := C
  show V E _ _ 0 [(0, .ref (a0 0)), (1, .int p1)] []
  unfold fX5_crowdIn at h
  refine V_pb C hn [(.iconst 0, 1), (.istore_n 2, 1), (.iconst 0, 1), (.istore_n 3, 1)] (pc' := 4) (ls' := [(0, .ref (a0 0)), (1, .int p1), (2, .int (0 : Int32)), (3, .int (0 : Int32))]) (st' := []) (decB_ok (by decide +kernel)) rfl rfl ?_
  refine V_sub (ls' := [(0, .ref (a0 0)), (1, .int p1), (2, .int (0 : Int32)), (3, .int (0 : Int32))]) rfl ?_
  exact cfX5_crowdIn_L4 C hn FU _ _ h
set_option maxRecDepth 100000 in
set_option maxHeartbeats 400000 in
theorem cfX5_crowd_j15 {E : VE} (C : Ctx E cX5_crowd RX5 9 (some .int)) (hn : E.nL = 4) {a0 : Nat → Nat} {p1 : Int32} {p2 : Int32} {S0 : MT} {out : Int32 × MT} (h : fX5_crowd_j15 p1 p2 S0 = some out) : V E (QR E (some (.int out.1)) (wdM E.G a0 out.2)) (wdM E.G a0 S0) 15 [(0, .ref (a0 0))] [] := by
  unfold fX5_crowd_j15 at h
  refine V_pb C hn [(.aload_n 0, 1), (.bipush (-2), 2)] (pc' := 18) (ls' := [(0, .ref (a0 0))]) (st' := [.int (cI (-2)), .ref (a0 0)]) (decB_ok (by decide +kernel)) rfl rfl ?_
  obtain ⟨q3, h4, h⟩ := bnd h
  refine V_callV0 C (As := [.int (cI (-2))]) (rest := []) (by decide +kernel) ok_yX5_no mk_RX5_77 (cfX5_no (l := E.l) (G := E.G) a0 h4) (q0 := 0) rfl rfl rfl rfl rfl rfl (Nat.le_of_ble_eq_true rfl) (Nat.le_of_ble_eq_true rfl) (Nat.le_of_ble_eq_true rfl) ?_
  show V E _ (wdM E.G a0 q3.2) 21 [(0, .ref (a0 0))] [.int q3.1]
  have h := Option.some.inj h
  subst h
  exact V_iret C (by decide +kernel) rfl
set_option maxRecDepth 100000 in
set_option maxHeartbeats 400000 in
theorem cfX5_crowd {l : Launch} {G : GG} (a0 : Nat → Nat) {p1 : Int32} {p2 : Int32} {S0 : MT} {out : Int32 × MT} (h : fX5_crowd p1 p2 S0 = some out) : Con l G 9 yX5_crowd cX5_crowd 4 (some .int) [.ref (a0 0), .int p1, .int p2] (wdM G a0 S0) (some (.int out.1)) (wdM G a0 out.2) := by
  refine Con_of (by decide +kernel) (Nat.le_of_ble_eq_true rfl) (fun E hl hG hn C => ?_)
  subst hl
  subst hG
  have C : Ctx E cX5_crowd RX5 9 (some .int) := C
  show V E _ _ 0 [(0, .ref (a0 0)), (1, .int p1), (2, .int p2)] []
  unfold fX5_crowd at h
  refine V_pb C hn [(.aload_n 0, 1), (.iload_n 1, 1)] (pc' := 2) (ls' := [(0, .ref (a0 0)), (1, .int p1), (2, .int p2)]) (st' := [.int p1, .ref (a0 0)]) (decB_ok (by decide +kernel)) rfl rfl ?_
  obtain ⟨q1, h2, h⟩ := bnd h
  refine V_callV0 C (As := [.int p1]) (rest := []) (by decide +kernel) ok_yX5_isCell mk_RX5_102 (cfX5_isCell (l := E.l) (G := E.G) a0 h2) (q0 := 0) rfl rfl rfl rfl rfl rfl (Nat.le_of_ble_eq_true rfl) (Nat.le_of_ble_eq_true rfl) (Nat.le_of_ble_eq_true rfl) ?_
  show V E _ (wdM E.G a0 S0) 5 [(0, .ref (a0 0)), (1, .int p1), (2, .int p2)] [.int q1]
  refine V_if_eq C (off := 10) (tgt := 15) (by decide +kernel) (by decide) h (fun _ h => ?_) (fun _ h => ?_)
  · refine V_sub (ls' := [(0, .ref (a0 0))]) rfl ?_
    exact cfX5_crowd_j15 C hn h
  · refine V_pb C hn [(.iload_n 2, 1)] (pc' := 9) (ls' := [(0, .ref (a0 0)), (1, .int p1), (2, .int p2)]) (st' := [.int p2]) (decB_ok (by decide +kernel)) rfl rfl ?_
    obtain ⟨q5, h6, h⟩ := bnd h
    refine V_callSp C (As := [.int p2]) (rest := []) (by decide +kernel) ok_yX5_isTime mk_RX5_241 (cfX5_isTime (l := E.l) (G := E.G) h6) [] rfl rfl rfl rfl (Nat.le_of_ble_eq_true rfl) (Nat.le_of_ble_eq_true rfl) (Nat.le_of_ble_eq_true rfl) ?_
    show V E _ (wdM E.G a0 S0) 12 [(0, .ref (a0 0)), (1, .int p1), (2, .int p2)] [.int q5]
    refine V_if_ne C (off := 10) (tgt := 22) (by decide +kernel) (by decide) h (fun _ h => ?_) (fun _ h => ?_)
    · refine V_sub (ls' := [(0, .ref (a0 0))]) rfl ?_
      exact cfX5_crowd_j15 C hn h
    · refine V_pb C hn [(.aload_n 0, 1), (.iload_n 2, 1)] (pc' := 24) (ls' := [(0, .ref (a0 0)), (1, .int p1), (2, .int p2)]) (st' := [.int p2, .ref (a0 0)]) (decB_ok (by decide +kernel)) rfl rfl ?_
      obtain ⟨q7, h8, h⟩ := bnd h
      refine V_callV0 C (As := [.int p2]) (rest := []) (by decide +kernel) ok_yX5_goesOn mk_RX5_228 (cfX5_goesOn (l := E.l) (G := E.G) a0 h8) (q0 := 0) rfl rfl rfl rfl rfl rfl (Nat.le_of_ble_eq_true rfl) (Nat.le_of_ble_eq_true rfl) (Nat.le_of_ble_eq_true rfl) ?_
      show V E _ (wdM E.G a0 q7) 27 [(0, .ref (a0 0)), (1, .int p1), (2, .int p2)] []
      refine V_pb C hn [(.aload_n 0, 1), (.iload_n 1, 1)] (pc' := 29) (ls' := [(0, .ref (a0 0)), (1, .int p1), (2, .int p2)]) (st' := [.int p1, .ref (a0 0)]) (decB_ok (by decide +kernel)) rfl rfl ?_
      obtain ⟨q9, h10, h⟩ := bnd h
      refine V_callV0 C (As := [.int p1]) (rest := []) (by decide +kernel) ok_yX5_crowdIn mk_RX5_325 (cfX5_crowdIn (l := E.l) (G := E.G) a0 h10) (q0 := 0) rfl rfl rfl rfl rfl rfl (Nat.le_of_ble_eq_true rfl) (Nat.le_of_ble_eq_true rfl) (Nat.le_of_ble_eq_true rfl) ?_
      show V E _ (wdM E.G a0 q7) 32 [(0, .ref (a0 0)), (1, .int p1), (2, .int p2)] [.int q9]
      refine V_pb C hn [(.istore_n 3, 1), (.aload_n 0, 1)] (pc' := 34) (ls' := [(0, .ref (a0 0)), (1, .int p1), (2, .int p2), (3, .int q9)]) (st' := [.ref (a0 0)]) (decB_ok (by decide +kernel)) rfl rfl ?_
      obtain ⟨q11, h12, h⟩ := bnd h
      refine V_callV0 C (As := []) (rest := []) (by decide +kernel) ok_yX5_ends mk_RX5_232 (cfX5_ends (l := E.l) (G := E.G) a0 h12) (q0 := 0) rfl rfl rfl rfl rfl rfl (Nat.le_of_ble_eq_true rfl) (Nat.le_of_ble_eq_true rfl) (Nat.le_of_ble_eq_true rfl) ?_
      show V E _ (wdM E.G a0 q11) 37 [(0, .ref (a0 0)), (1, .int p1), (2, .int p2), (3, .int q9)] []
      refine V_pb C hn [(.iload_n 3, 1)] (pc' := 38) (ls' := [(0, .ref (a0 0)), (1, .int p1), (2, .int p2), (3, .int q9)]) (st' := [.int q9]) (decB_ok (by decide +kernel)) rfl rfl ?_
      have h := Option.some.inj h
      subst h
      exact V_iret C (by decide +kernel) rfl
set_option maxRecDepth 100000 in
set_option maxHeartbeats 400000 in
theorem cfX5_thick_j51 {E : VE} (C : Ctx E cX5_thick RX5 9 (some .int)) (hn : E.nL = 4) {a0 : Nat → Nat} {p1 : Int32} {v2 : Int32} {v3 : Int32} {S0 : MT} {out : Int32 × MT} {k24 : Int32 → Int32 → MT → Option (Int32 × MT)} (hk24 : ∀ (v2 : Int32) (v3 : Int32) (S0 : MT), k24 v2 v3 S0 = some out → V E (QR E (some (.int out.1)) (wdM E.G a0 out.2)) (wdM E.G a0 S0) 24 [(0, .ref (a0 0)), (2, .int v2), (3, .int v3)] []) (h : fX5_thick_j51 k24 p1 v2 v3 S0 = some out) : V E (QR E (some (.int out.1)) (wdM E.G a0 out.2)) (wdM E.G a0 S0) 51 [(0, .ref (a0 0)), (2, .int v2), (3, .int v3)] [] := by
  unfold fX5_thick_j51 at h
  refine V_pb C hn [(.iinc 3 (-1), 3)] (pc' := 54) (ls' := [(0, .ref (a0 0)), (2, .int v2), (3, .int (v3 + (cI (-1))))]) (st' := []) (decB_ok (by decide +kernel)) rfl rfl ?_
  refine V_goto C (off := -30) (tgt := 24) (by decide +kernel) (by decide) ?_
  refine V_sub (ls' := [(0, .ref (a0 0)), (2, .int v2), (3, .int (v3 + (cI (-1))))]) rfl ?_
  exact hk24 _ _ _ h
set_option maxRecDepth 100000 in
set_option maxHeartbeats 400000 in
theorem cfX5_thick_L24 {E : VE} (C : Ctx E cX5_thick RX5 9 (some .int)) (hn : E.nL = 4) {a0 : Nat → Nat} {p1 : Int32} {out : Int32 × MT} : ∀ (n : Nat) (v2 : Int32) (v3 : Int32) (S0 : MT), fX5_thick_L24 p1 n v2 v3 S0 = some out → V E (QR E (some (.int out.1)) (wdM E.G a0 out.2)) (wdM E.G a0 S0) 24 [(0, .ref (a0 0)), (2, .int v2), (3, .int v3)] [] := by
  intro n
  induction n with
  | zero =>
    intro v2 v3 S0 h
    cases h
  | succ n ih =>
    intro v2 v3 S0 h
    unfold fX5_thick_L24 at h
    refine V_pb C hn [(.iload_n 3, 1)] (pc' := 25) (ls' := [(0, .ref (a0 0)), (2, .int v2), (3, .int v3)]) (st' := [.int v3]) (decB_ok (by decide +kernel)) rfl rfl ?_
    refine V_if_lt C (off := 32) (tgt := 57) (by decide +kernel) (by decide) h (fun _ h => ?_) (fun _ h => ?_)
    · refine V_pb C hn [(.aload_n 0, 1)] (pc' := 58) (ls' := [(0, .ref (a0 0)), (2, .int v2), (3, .int v3)]) (st' := [.ref (a0 0)]) (decB_ok (by decide +kernel)) rfl rfl ?_
      obtain ⟨q7, h8, h⟩ := bnd h
      refine V_callV0 C (As := []) (rest := []) (by decide +kernel) ok_yX5_ends mk_RX5_232 (cfX5_ends (l := E.l) (G := E.G) a0 h8) (q0 := 0) rfl rfl rfl rfl rfl rfl (Nat.le_of_ble_eq_true rfl) (Nat.le_of_ble_eq_true rfl) (Nat.le_of_ble_eq_true rfl) ?_
      show V E _ (wdM E.G a0 q7) 61 [(0, .ref (a0 0)), (2, .int v2), (3, .int v3)] []
      refine V_pb C hn [(.iload_n 2, 1)] (pc' := 62) (ls' := [(0, .ref (a0 0)), (2, .int v2), (3, .int v3)]) (st' := [.int v2]) (decB_ok (by decide +kernel)) rfl rfl ?_
      have h := Option.some.inj h
      subst h
      exact V_iret C (by decide +kernel) rfl
    · refine V_pb C hn [(.aload_n 0, 1), (.iload_n 3, 1)] (pc' := 30) (ls' := [(0, .ref (a0 0)), (2, .int v2), (3, .int v3)]) (st' := [.int v3, .ref (a0 0)]) (decB_ok (by decide +kernel)) rfl rfl ?_
      obtain ⟨q9, h10, h⟩ := bnd h
      refine V_callV0 C (As := [.int v3]) (rest := []) (by decide +kernel) ok_yX5_isCell mk_RX5_102 (cfX5_isCell (l := E.l) (G := E.G) a0 h10) (q0 := 0) rfl rfl rfl rfl rfl rfl (Nat.le_of_ble_eq_true rfl) (Nat.le_of_ble_eq_true rfl) (Nat.le_of_ble_eq_true rfl) ?_
      show V E _ (wdM E.G a0 S0) 33 [(0, .ref (a0 0)), (2, .int v2), (3, .int v3)] [.int q9]
      refine V_if_eq C (off := 18) (tgt := 51) (by decide +kernel) (by decide) h (fun _ h => ?_) (fun _ h => ?_)
      · refine V_sub (ls' := [(0, .ref (a0 0)), (2, .int v2), (3, .int v3)]) rfl ?_
        exact cfX5_thick_j51 C hn (k24 := (fun v2 v3 S0 => fX5_thick_L24 p1 n v2 v3 S0)) (fun v2 v3 S0 h => ih v2 v3 S0 h) h
      · refine V_pb C hn [(.aload_n 0, 1), (.iload_n 3, 1)] (pc' := 38) (ls' := [(0, .ref (a0 0)), (2, .int v2), (3, .int v3)]) (st' := [.int v3, .ref (a0 0)]) (decB_ok (by decide +kernel)) rfl rfl ?_
        obtain ⟨q11, h12, h⟩ := bnd h
        refine V_callV0 C (As := [.int v3]) (rest := []) (by decide +kernel) ok_yX5_crowdIn mk_RX5_325 (cfX5_crowdIn (l := E.l) (G := E.G) a0 h12) (q0 := 0) rfl rfl rfl rfl rfl rfl (Nat.le_of_ble_eq_true rfl) (Nat.le_of_ble_eq_true rfl) (Nat.le_of_ble_eq_true rfl) ?_
        show V E _ (wdM E.G a0 S0) 41 [(0, .ref (a0 0)), (2, .int v2), (3, .int v3)] [.int q11]
        refine V_pb C hn [(.aload_n 0, 1), (.iload_n 2, 1)] (pc' := 43) (ls' := [(0, .ref (a0 0)), (2, .int v2), (3, .int v3)]) (st' := [.int v2, .ref (a0 0), .int q11]) (decB_ok (by decide +kernel)) rfl rfl ?_
        obtain ⟨q13, h14, h⟩ := bnd h
        refine V_callV0 C (As := [.int v2]) (rest := [.int q11]) (by decide +kernel) ok_yX5_crowdIn mk_RX5_325 (cfX5_crowdIn (l := E.l) (G := E.G) a0 h14) (q0 := 0) rfl rfl rfl rfl rfl rfl (Nat.le_of_ble_eq_true rfl) (Nat.le_of_ble_eq_true rfl) (Nat.le_of_ble_eq_true rfl) ?_
        show V E _ (wdM E.G a0 S0) 46 [(0, .ref (a0 0)), (2, .int v2), (3, .int v3)] [.int q13, .int q11]
        refine V_ic_lt C (off := 5) (tgt := 51) (by decide +kernel) (by decide) h (fun _ h => ?_) (fun _ h => ?_)
        · refine V_sub (ls' := [(0, .ref (a0 0)), (2, .int v2), (3, .int v3)]) rfl ?_
          exact cfX5_thick_j51 C hn (k24 := (fun v2 v3 S0 => fX5_thick_L24 p1 n v2 v3 S0)) (fun v2 v3 S0 h => ih v2 v3 S0 h) h
        · refine V_pb C hn [(.iload_n 3, 1), (.istore_n 2, 1)] (pc' := 51) (ls' := [(0, .ref (a0 0)), (2, .int v3), (3, .int v3)]) (st' := []) (decB_ok (by decide +kernel)) rfl rfl ?_
          refine V_sub (ls' := [(0, .ref (a0 0)), (2, .int v3), (3, .int v3)]) rfl ?_
          exact cfX5_thick_j51 C hn (k24 := (fun v2 v3 S0 => fX5_thick_L24 p1 n v2 v3 S0)) (fun v2 v3 S0 h => ih v2 v3 S0 h) h
set_option maxRecDepth 100000 in
set_option maxHeartbeats 400000 in
theorem cfX5_thick {l : Launch} {G : GG} (a0 : Nat → Nat) {p1 : Int32} {S0 : MT} {out : Int32 × MT} (h : fX5_thick p1 S0 = some out) : Con l G 9 yX5_thick cX5_thick 4 (some .int) [.ref (a0 0), .int p1] (wdM G a0 S0) (some (.int out.1)) (wdM G a0 out.2) := by
  refine Con_of (by decide +kernel) (Nat.le_of_ble_eq_true rfl) (fun E hl hG hn C => ?_)
  subst hl
  subst hG
  have C : Ctx E cX5_thick RX5 9 (some .int) := C
  show V E _ _ 0 [(0, .ref (a0 0)), (1, .int p1)] []
  unfold fX5_thick at h
  refine V_pb C hn [(.iload_n 1, 1)] (pc' := 1) (ls' := [(0, .ref (a0 0)), (1, .int p1)]) (st' := [.int p1]) (decB_ok (by decide +kernel)) rfl rfl ?_
  obtain ⟨q1, h2, h⟩ := bnd h
  refine V_callSp C (As := [.int p1]) (rest := []) (by decide +kernel) ok_yX5_isTime mk_RX5_241 (cfX5_isTime (l := E.l) (G := E.G) h2) [] rfl rfl rfl rfl (Nat.le_of_ble_eq_true rfl) (Nat.le_of_ble_eq_true rfl) (Nat.le_of_ble_eq_true rfl) ?_
  show V E _ (wdM E.G a0 S0) 4 [(0, .ref (a0 0)), (1, .int p1)] [.int q1]
  refine V_if_ne C (off := 10) (tgt := 14) (by decide +kernel) (by decide) h (fun _ h => ?_) (fun _ h => ?_)
  · refine V_pb C hn [(.aload_n 0, 1), (.bipush (-2), 2)] (pc' := 10) (ls' := [(0, .ref (a0 0)), (1, .int p1)]) (st' := [.int (cI (-2)), .ref (a0 0)]) (decB_ok (by decide +kernel)) rfl rfl ?_
    obtain ⟨q3, h4, h⟩ := bnd h
    refine V_callV0 C (As := [.int (cI (-2))]) (rest := []) (by decide +kernel) ok_yX5_no mk_RX5_77 (cfX5_no (l := E.l) (G := E.G) a0 h4) (q0 := 0) rfl rfl rfl rfl rfl rfl (Nat.le_of_ble_eq_true rfl) (Nat.le_of_ble_eq_true rfl) (Nat.le_of_ble_eq_true rfl) ?_
    show V E _ (wdM E.G a0 q3.2) 13 [(0, .ref (a0 0)), (1, .int p1)] [.int q3.1]
    have h := Option.some.inj h
    subst h
    exact V_iret C (by decide +kernel) rfl
  · refine V_pb C hn [(.aload_n 0, 1), (.iload_n 1, 1)] (pc' := 16) (ls' := [(0, .ref (a0 0)), (1, .int p1)]) (st' := [.int p1, .ref (a0 0)]) (decB_ok (by decide +kernel)) rfl rfl ?_
    obtain ⟨q5, h6, h⟩ := bnd h
    refine V_callV0 C (As := [.int p1]) (rest := []) (by decide +kernel) ok_yX5_goesOn mk_RX5_228 (cfX5_goesOn (l := E.l) (G := E.G) a0 h6) (q0 := 0) rfl rfl rfl rfl rfl rfl (Nat.le_of_ble_eq_true rfl) (Nat.le_of_ble_eq_true rfl) (Nat.le_of_ble_eq_true rfl) ?_
    show V E _ (wdM E.G a0 q5) 19 [(0, .ref (a0 0)), (1, .int p1)] []
    refine V_pb C hn [(.iconst 0, 1), (.istore_n 2, 1), (.bipush 66, 2), (.istore_n 3, 1)] (pc' := 24) (ls' := [(0, .ref (a0 0)), (1, .int p1), (2, .int (0 : Int32)), (3, .int (66 : Int32))]) (st' := []) (decB_ok (by decide +kernel)) rfl rfl ?_
    refine V_sub (ls' := [(0, .ref (a0 0)), (2, .int (0 : Int32)), (3, .int (66 : Int32))]) rfl ?_
    exact cfX5_thick_L24 C hn FU _ _ _ h
set_option maxRecDepth 100000 in
set_option maxHeartbeats 400000 in
theorem cfX5_arrives_j16 {E : VE} (C : Ctx E cX5_arrives RX5 8 (some .int)) (hn : E.nL = 5) {a0 : Nat → Nat} {p1 : Int32} {p2 : Int32} {S0 : MT} {out : Int32 × MT} (h : fX5_arrives_j16 p1 p2 S0 = some out) : V E (QR E (some (.int out.1)) (wdM E.G a0 out.2)) (wdM E.G a0 S0) 16 [(0, .ref (a0 0))] [] := by
  unfold fX5_arrives_j16 at h
  refine V_pb C hn [(.aload_n 0, 1), (.bipush (-2), 2)] (pc' := 19) (ls' := [(0, .ref (a0 0))]) (st' := [.int (cI (-2)), .ref (a0 0)]) (decB_ok (by decide +kernel)) rfl rfl ?_
  obtain ⟨q3, h4, h⟩ := bnd h
  refine V_callV0 C (As := [.int (cI (-2))]) (rest := []) (by decide +kernel) ok_yX5_no mk_RX5_77 (cfX5_no (l := E.l) (G := E.G) a0 h4) (q0 := 0) rfl rfl rfl rfl rfl rfl (Nat.le_of_ble_eq_true rfl) (Nat.le_of_ble_eq_true rfl) (Nat.le_of_ble_eq_true rfl) ?_
  show V E _ (wdM E.G a0 q3.2) 22 [(0, .ref (a0 0))] [.int q3.1]
  have h := Option.some.inj h
  subst h
  exact V_iret C (by decide +kernel) rfl
set_option maxRecDepth 100000 in
set_option maxHeartbeats 400000 in
theorem cfX5_arrives_j72 {E : VE} (C : Ctx E cX5_arrives RX5 8 (some .int)) (hn : E.nL = 5) {a0 : Nat → Nat} {p1 : Int32} {p2 : Int32} {v3 : Int32} {S0 : MT} {out : Int32 × MT} (h : fX5_arrives_j72 p1 p2 v3 S0 = some out) : V E (QR E (some (.int out.1)) (wdM E.G a0 out.2)) (wdM E.G a0 S0) 72 [(0, .ref (a0 0)), (3, .int v3)] [] := by
  unfold fX5_arrives_j72 at h
  refine V_pb C hn [(.aload_n 0, 1)] (pc' := 73) (ls' := [(0, .ref (a0 0)), (3, .int v3)]) (st' := [.ref (a0 0)]) (decB_ok (by decide +kernel)) rfl rfl ?_
  obtain ⟨q9, h10, h⟩ := bnd h
  refine V_callV0 C (As := []) (rest := []) (by decide +kernel) ok_yX5_ends mk_RX5_232 (cfX5_ends (l := E.l) (G := E.G) a0 h10) (q0 := 0) rfl rfl rfl rfl rfl rfl (Nat.le_of_ble_eq_true rfl) (Nat.le_of_ble_eq_true rfl) (Nat.le_of_ble_eq_true rfl) ?_
  show V E _ (wdM E.G a0 q9) 76 [(0, .ref (a0 0)), (3, .int v3)] []
  refine V_pb C hn [(.iload_n 3, 1)] (pc' := 77) (ls' := [(0, .ref (a0 0)), (3, .int v3)]) (st' := [.int v3]) (decB_ok (by decide +kernel)) rfl rfl ?_
  have h := Option.some.inj h
  subst h
  exact V_iret C (by decide +kernel) rfl
set_option maxRecDepth 100000 in
set_option maxHeartbeats 400000 in
theorem cfX5_arrives_j66 {E : VE} (C : Ctx E cX5_arrives RX5 8 (some .int)) (hn : E.nL = 5) {a0 : Nat → Nat} {p1 : Int32} {p2 : Int32} {v3 : Int32} {v4 : Int32} {S0 : MT} {out : Int32 × MT} {k32 : Int32 → Int32 → MT → Option (Int32 × MT)} (hk32 : ∀ (v3 : Int32) (v4 : Int32) (S0 : MT), k32 v3 v4 S0 = some out → V E (QR E (some (.int out.1)) (wdM E.G a0 out.2)) (wdM E.G a0 S0) 32 [(0, .ref (a0 0)), (1, .int p1), (2, .int p2), (3, .int v3), (4, .int v4)] []) (h : fX5_arrives_j66 k32 p1 p2 v3 v4 S0 = some out) : V E (QR E (some (.int out.1)) (wdM E.G a0 out.2)) (wdM E.G a0 S0) 66 [(0, .ref (a0 0)), (1, .int p1), (2, .int p2), (3, .int v3), (4, .int v4)] [] := by
  unfold fX5_arrives_j66 at h
  refine V_pb C hn [(.iinc 4 1, 3)] (pc' := 69) (ls' := [(0, .ref (a0 0)), (1, .int p1), (2, .int p2), (3, .int v3), (4, .int (v4 + (1 : Int32)))]) (st' := []) (decB_ok (by decide +kernel)) rfl rfl ?_
  refine V_goto C (off := -37) (tgt := 32) (by decide +kernel) (by decide) ?_
  refine V_sub (ls' := [(0, .ref (a0 0)), (1, .int p1), (2, .int p2), (3, .int v3), (4, .int (v4 + (1 : Int32)))]) rfl ?_
  exact hk32 _ _ _ h
set_option maxRecDepth 100000 in
set_option maxHeartbeats 400000 in
theorem cfX5_arrives_j53 {E : VE} (C : Ctx E cX5_arrives RX5 8 (some .int)) (hn : E.nL = 5) {a0 : Nat → Nat} {p1 : Int32} {p2 : Int32} {v3 : Int32} {v4 : Int32} {S0 : MT} {out : Int32 × MT} {k32 : Int32 → Int32 → MT → Option (Int32 × MT)} (hk32 : ∀ (v3 : Int32) (v4 : Int32) (S0 : MT), k32 v3 v4 S0 = some out → V E (QR E (some (.int out.1)) (wdM E.G a0 out.2)) (wdM E.G a0 S0) 32 [(0, .ref (a0 0)), (1, .int p1), (2, .int p2), (3, .int v3), (4, .int v4)] []) (h : fX5_arrives_j53 k32 p1 p2 v3 v4 S0 = some out) : V E (QR E (some (.int out.1)) (wdM E.G a0 out.2)) (wdM E.G a0 S0) 53 [(0, .ref (a0 0)), (1, .int p1), (2, .int p2), (3, .int v3), (4, .int v4)] [] := by
  unfold fX5_arrives_j53 at h
  refine V_pb C hn [(.aload_n 0, 1)] (pc' := 54) (ls' := [(0, .ref (a0 0)), (1, .int p1), (2, .int p2), (3, .int v3), (4, .int v4)]) (st' := [.ref (a0 0)]) (decB_ok (by decide +kernel)) rfl rfl ?_
  refine V_get C (v := .ref (a0 3)) (by decide +kernel) 0 4 fk_RX5_16 rfl rfl ?_
  refine V_pb C hn [(.iload_n 1, 1)] (pc' := 58) (ls' := [(0, .ref (a0 0)), (1, .int p1), (2, .int p2), (3, .int v3), (4, .int v4)]) (st' := [.int p1, .ref (a0 3)]) (decB_ok (by decide +kernel)) rfl rfl ?_
  refine V_iald C (f := (m_cell S0)) (by decide +kernel) 3 rfl h (fun h => ?_)
  refine V_pb C hn [(.iload_n 2, 1)] (pc' := 60) (ls' := [(0, .ref (a0 0)), (1, .int p1), (2, .int p2), (3, .int v3), (4, .int v4)]) (st' := [.int p2, .int ((m_cell S0) (ix p1))]) (decB_ok (by decide +kernel)) rfl rfl ?_
  refine V_ic_ne C (off := 6) (tgt := 66) (by decide +kernel) (by decide) h (fun _ h => ?_) (fun _ h => ?_)
  · refine V_pb C hn [(.iload 4, 2), (.istore_n 3, 1)] (pc' := 66) (ls' := [(0, .ref (a0 0)), (1, .int p1), (2, .int p2), (3, .int v4), (4, .int v4)]) (st' := []) (decB_ok (by decide +kernel)) rfl rfl ?_
    refine V_sub (ls' := [(0, .ref (a0 0)), (1, .int p1), (2, .int p2), (3, .int v4), (4, .int v4)]) rfl ?_
    exact cfX5_arrives_j66 C hn (k32 := k32) (hk32) h
  · refine V_sub (ls' := [(0, .ref (a0 0)), (1, .int p1), (2, .int p2), (3, .int v3), (4, .int v4)]) rfl ?_
    exact cfX5_arrives_j66 C hn (k32 := k32) (hk32) h
set_option maxRecDepth 100000 in
set_option maxHeartbeats 400000 in
theorem cfX5_arrives_L32 {E : VE} (C : Ctx E cX5_arrives RX5 8 (some .int)) (hn : E.nL = 5) {a0 : Nat → Nat} {p1 : Int32} {p2 : Int32} {out : Int32 × MT} : ∀ (n : Nat) (v3 : Int32) (v4 : Int32) (S0 : MT), fX5_arrives_L32 p1 p2 n v3 v4 S0 = some out → V E (QR E (some (.int out.1)) (wdM E.G a0 out.2)) (wdM E.G a0 S0) 32 [(0, .ref (a0 0)), (1, .int p1), (2, .int p2), (3, .int v3), (4, .int v4)] [] := by
  intro n
  induction n with
  | zero =>
    intro v3 v4 S0 h
    cases h
  | succ n ih =>
    intro v3 v4 S0 h
    unfold fX5_arrives_L32 at h
    refine V_pb C hn [(.iload 4, 2), (.bipush 24, 2)] (pc' := 36) (ls' := [(0, .ref (a0 0)), (1, .int p1), (2, .int p2), (3, .int v3), (4, .int v4)]) (st' := [.int (24 : Int32), .int v4]) (decB_ok (by decide +kernel)) rfl rfl ?_
    refine V_ic_gt C (off := 36) (tgt := 72) (by decide +kernel) (by decide) h (fun _ h => ?_) (fun _ h => ?_)
    · refine V_sub (ls' := [(0, .ref (a0 0)), (3, .int v3)]) rfl ?_
      exact cfX5_arrives_j72 C hn h
    · refine V_pb C hn [(.iload_n 3, 1), (.iconst (-1), 1)] (pc' := 41) (ls' := [(0, .ref (a0 0)), (1, .int p1), (2, .int p2), (3, .int v3), (4, .int v4)]) (st' := [.int (cI (-1)), .int v3]) (decB_ok (by decide +kernel)) rfl rfl ?_
      refine V_ic_ne C (off := 31) (tgt := 72) (by decide +kernel) (by decide) h (fun _ h => ?_) (fun _ h => ?_)
      · refine V_pb C hn [(.iload 4, 2)] (pc' := 46) (ls' := [(0, .ref (a0 0)), (1, .int p1), (2, .int p2), (3, .int v3), (4, .int v4)]) (st' := [.int v4]) (decB_ok (by decide +kernel)) rfl rfl ?_
        refine V_if_le C (off := 7) (tgt := 53) (by decide +kernel) (by decide) h (fun _ h => ?_) (fun _ h => ?_)
        · refine V_sub (ls' := [(0, .ref (a0 0)), (1, .int p1), (2, .int p2), (3, .int v3), (4, .int v4)]) rfl ?_
          exact cfX5_arrives_j53 C hn (k32 := (fun v3 v4 S0 => fX5_arrives_L32 p1 p2 n v3 v4 S0)) (fun v3 v4 S0 h => ih v3 v4 S0 h) h
        · refine V_pb C hn [(.aload_n 0, 1)] (pc' := 50) (ls' := [(0, .ref (a0 0)), (1, .int p1), (2, .int p2), (3, .int v3), (4, .int v4)]) (st' := [.ref (a0 0)]) (decB_ok (by decide +kernel)) rfl rfl ?_
          obtain ⟨q11, h12, h⟩ := bnd h
          refine V_callV0 C (As := []) (rest := []) (by decide +kernel) ok_yX5_step mk_RX5_225 (cfX5_step (l := E.l) (G := E.G) a0 h12) (q0 := 0) rfl rfl rfl rfl rfl rfl (Nat.le_of_ble_eq_true rfl) (Nat.le_of_ble_eq_true rfl) (Nat.le_of_ble_eq_true rfl) ?_
          show V E _ (wdM E.G a0 q11) 53 [(0, .ref (a0 0)), (1, .int p1), (2, .int p2), (3, .int v3), (4, .int v4)] []
          refine V_sub (ls' := [(0, .ref (a0 0)), (1, .int p1), (2, .int p2), (3, .int v3), (4, .int v4)]) rfl ?_
          exact cfX5_arrives_j53 C hn (k32 := (fun v3 v4 S0 => fX5_arrives_L32 p1 p2 n v3 v4 S0)) (fun v3 v4 S0 h => ih v3 v4 S0 h) h
      · refine V_sub (ls' := [(0, .ref (a0 0)), (3, .int v3)]) rfl ?_
        exact cfX5_arrives_j72 C hn h
set_option maxRecDepth 100000 in
set_option maxHeartbeats 400000 in
theorem cfX5_arrives {l : Launch} {G : GG} (a0 : Nat → Nat) {p1 : Int32} {p2 : Int32} {S0 : MT} {out : Int32 × MT} (h : fX5_arrives p1 p2 S0 = some out) : Con l G 8 yX5_arrives cX5_arrives 5 (some .int) [.ref (a0 0), .int p1, .int p2] (wdM G a0 S0) (some (.int out.1)) (wdM G a0 out.2) := by
  refine Con_of (by decide +kernel) (Nat.le_of_ble_eq_true rfl) (fun E hl hG hn C => ?_)
  subst hl
  subst hG
  have C : Ctx E cX5_arrives RX5 8 (some .int) := C
  show V E _ _ 0 [(0, .ref (a0 0)), (1, .int p1), (2, .int p2)] []
  unfold fX5_arrives at h
  refine V_pb C hn [(.aload_n 0, 1), (.iload_n 1, 1)] (pc' := 2) (ls' := [(0, .ref (a0 0)), (1, .int p1), (2, .int p2)]) (st' := [.int p1, .ref (a0 0)]) (decB_ok (by decide +kernel)) rfl rfl ?_
  obtain ⟨q1, h2, h⟩ := bnd h
  refine V_callV0 C (As := [.int p1]) (rest := []) (by decide +kernel) ok_yX5_isMote mk_RX5_91 (cfX5_isMote (l := E.l) (G := E.G) a0 h2) (q0 := 0) rfl rfl rfl rfl rfl rfl (Nat.le_of_ble_eq_true rfl) (Nat.le_of_ble_eq_true rfl) (Nat.le_of_ble_eq_true rfl) ?_
  show V E _ (wdM E.G a0 S0) 5 [(0, .ref (a0 0)), (1, .int p1), (2, .int p2)] [.int q1]
  refine V_if_eq C (off := 11) (tgt := 16) (by decide +kernel) (by decide) h (fun _ h => ?_) (fun _ h => ?_)
  · refine V_sub (ls' := [(0, .ref (a0 0))]) rfl ?_
    exact cfX5_arrives_j16 C hn h
  · refine V_pb C hn [(.aload_n 0, 1), (.iload_n 2, 1)] (pc' := 10) (ls' := [(0, .ref (a0 0)), (1, .int p1), (2, .int p2)]) (st' := [.int p2, .ref (a0 0)]) (decB_ok (by decide +kernel)) rfl rfl ?_
    obtain ⟨q5, h6, h⟩ := bnd h
    refine V_callV0 C (As := [.int p2]) (rest := []) (by decide +kernel) ok_yX5_isCell mk_RX5_102 (cfX5_isCell (l := E.l) (G := E.G) a0 h6) (q0 := 0) rfl rfl rfl rfl rfl rfl (Nat.le_of_ble_eq_true rfl) (Nat.le_of_ble_eq_true rfl) (Nat.le_of_ble_eq_true rfl) ?_
    show V E _ (wdM E.G a0 S0) 13 [(0, .ref (a0 0)), (1, .int p1), (2, .int p2)] [.int q5]
    refine V_if_ne C (off := 10) (tgt := 23) (by decide +kernel) (by decide) h (fun _ h => ?_) (fun _ h => ?_)
    · refine V_sub (ls' := [(0, .ref (a0 0))]) rfl ?_
      exact cfX5_arrives_j16 C hn h
    · refine V_pb C hn [(.aload_n 0, 1)] (pc' := 24) (ls' := [(0, .ref (a0 0)), (1, .int p1), (2, .int p2)]) (st' := [.ref (a0 0)]) (decB_ok (by decide +kernel)) rfl rfl ?_
      obtain ⟨q7, h8, h⟩ := bnd h
      refine V_callV0 C (As := []) (rest := []) (by decide +kernel) ok_yX5_begins mk_RX5_222 (cfX5_begins (l := E.l) (G := E.G) a0 h8) (q0 := 0) rfl rfl rfl rfl rfl rfl (Nat.le_of_ble_eq_true rfl) (Nat.le_of_ble_eq_true rfl) (Nat.le_of_ble_eq_true rfl) ?_
      show V E _ (wdM E.G a0 q7) 27 [(0, .ref (a0 0)), (1, .int p1), (2, .int p2)] []
      refine V_pb C hn [(.iconst (-1), 1), (.istore_n 3, 1), (.iconst 0, 1), (.istore 4, 2)] (pc' := 32) (ls' := [(0, .ref (a0 0)), (1, .int p1), (2, .int p2), (3, .int (cI (-1))), (4, .int (0 : Int32))]) (st' := []) (decB_ok (by decide +kernel)) rfl rfl ?_
      refine V_sub (ls' := [(0, .ref (a0 0)), (1, .int p1), (2, .int p2), (3, .int (cI (-1))), (4, .int (0 : Int32))]) rfl ?_
      exact cfX5_arrives_L32 C hn FU _ _ _ h
set_option maxRecDepth 100000 in
set_option maxHeartbeats 400000 in
theorem cfX5_lights_j69 {E : VE} (C : Ctx E cX5_lights RX5 8 (some .int)) (hn : E.nL = 4) {a0 : Nat → Nat} {p1 : Int32} {v2 : Int32} {S0 : MT} {out : Int32 × MT} (h : fX5_lights_j69 p1 v2 S0 = some out) : V E (QR E (some (.int out.1)) (wdM E.G a0 out.2)) (wdM E.G a0 S0) 69 [(0, .ref (a0 0)), (2, .int v2)] [] := by
  unfold fX5_lights_j69 at h
  refine V_pb C hn [(.aload_n 0, 1)] (pc' := 70) (ls' := [(0, .ref (a0 0)), (2, .int v2)]) (st' := [.ref (a0 0)]) (decB_ok (by decide +kernel)) rfl rfl ?_
  obtain ⟨q7, h8, h⟩ := bnd h
  refine V_callV0 C (As := []) (rest := []) (by decide +kernel) ok_yX5_ends mk_RX5_232 (cfX5_ends (l := E.l) (G := E.G) a0 h8) (q0 := 0) rfl rfl rfl rfl rfl rfl (Nat.le_of_ble_eq_true rfl) (Nat.le_of_ble_eq_true rfl) (Nat.le_of_ble_eq_true rfl) ?_
  show V E _ (wdM E.G a0 q7) 73 [(0, .ref (a0 0)), (2, .int v2)] []
  refine V_pb C hn [(.iload_n 2, 1)] (pc' := 74) (ls' := [(0, .ref (a0 0)), (2, .int v2)]) (st' := [.int v2]) (decB_ok (by decide +kernel)) rfl rfl ?_
  have h := Option.some.inj h
  subst h
  exact V_iret C (by decide +kernel) rfl
set_option maxRecDepth 100000 in
set_option maxHeartbeats 400000 in
theorem cfX5_lights_j63 {E : VE} (C : Ctx E cX5_lights RX5 8 (some .int)) (hn : E.nL = 4) {a0 : Nat → Nat} {p1 : Int32} {v2 : Int32} {v3 : Int32} {S0 : MT} {out : Int32 × MT} {k23 : Int32 → Int32 → MT → Option (Int32 × MT)} (hk23 : ∀ (v2 : Int32) (v3 : Int32) (S0 : MT), k23 v2 v3 S0 = some out → V E (QR E (some (.int out.1)) (wdM E.G a0 out.2)) (wdM E.G a0 S0) 23 [(0, .ref (a0 0)), (1, .int p1), (2, .int v2), (3, .int v3)] []) (h : fX5_lights_j63 k23 p1 v2 v3 S0 = some out) : V E (QR E (some (.int out.1)) (wdM E.G a0 out.2)) (wdM E.G a0 S0) 63 [(0, .ref (a0 0)), (1, .int p1), (2, .int v2), (3, .int v3)] [] := by
  unfold fX5_lights_j63 at h
  refine V_pb C hn [(.iinc 3 1, 3)] (pc' := 66) (ls' := [(0, .ref (a0 0)), (1, .int p1), (2, .int v2), (3, .int (v3 + (1 : Int32)))]) (st' := []) (decB_ok (by decide +kernel)) rfl rfl ?_
  refine V_goto C (off := -43) (tgt := 23) (by decide +kernel) (by decide) ?_
  refine V_sub (ls' := [(0, .ref (a0 0)), (1, .int p1), (2, .int v2), (3, .int (v3 + (1 : Int32)))]) rfl ?_
  exact hk23 _ _ _ h
set_option maxRecDepth 100000 in
set_option maxHeartbeats 400000 in
theorem cfX5_lights_j42 {E : VE} (C : Ctx E cX5_lights RX5 8 (some .int)) (hn : E.nL = 4) {a0 : Nat → Nat} {p1 : Int32} {v2 : Int32} {v3 : Int32} {S0 : MT} {out : Int32 × MT} {k23 : Int32 → Int32 → MT → Option (Int32 × MT)} (hk23 : ∀ (v2 : Int32) (v3 : Int32) (S0 : MT), k23 v2 v3 S0 = some out → V E (QR E (some (.int out.1)) (wdM E.G a0 out.2)) (wdM E.G a0 S0) 23 [(0, .ref (a0 0)), (1, .int p1), (2, .int v2), (3, .int v3)] []) (h : fX5_lights_j42 k23 p1 v2 v3 S0 = some out) : V E (QR E (some (.int out.1)) (wdM E.G a0 out.2)) (wdM E.G a0 S0) 42 [(0, .ref (a0 0)), (1, .int p1), (2, .int v2), (3, .int v3)] [] := by
  unfold fX5_lights_j42 at h
  refine V_pb C hn [(.aload_n 0, 1), (.aload_n 0, 1)] (pc' := 44) (ls' := [(0, .ref (a0 0)), (1, .int p1), (2, .int v2), (3, .int v3)]) (st' := [.ref (a0 0), .ref (a0 0)]) (decB_ok (by decide +kernel)) rfl rfl ?_
  refine V_get C (v := .ref (a0 3)) (by decide +kernel) 0 4 fk_RX5_16 rfl rfl ?_
  refine V_pb C hn [(.iload_n 1, 1)] (pc' := 48) (ls' := [(0, .ref (a0 0)), (1, .int p1), (2, .int v2), (3, .int v3)]) (st' := [.int p1, .ref (a0 3), .ref (a0 0)]) (decB_ok (by decide +kernel)) rfl rfl ?_
  refine V_iald C (f := (m_cell S0)) (by decide +kernel) 3 rfl h (fun h => ?_)
  refine V_pb C hn [(.aload_n 0, 1)] (pc' := 50) (ls' := [(0, .ref (a0 0)), (1, .int p1), (2, .int v2), (3, .int v3)]) (st' := [.ref (a0 0), .int ((m_cell S0) (ix p1)), .ref (a0 0)]) (decB_ok (by decide +kernel)) rfl rfl ?_
  refine V_get C (v := .ref (a0 4)) (by decide +kernel) 0 6 fk_RX5_19 rfl rfl ?_
  refine V_pb C hn [(.iconst 2, 1)] (pc' := 54) (ls' := [(0, .ref (a0 0)), (1, .int p1), (2, .int v2), (3, .int v3)]) (st' := [.int (2 : Int32), .ref (a0 4), .int ((m_cell S0) (ix p1)), .ref (a0 0)]) (decB_ok (by decide +kernel)) rfl rfl ?_
  refine V_iald C (f := (m_ways S0)) (by decide +kernel) 4 rfl h (fun h => ?_)
  obtain ⟨q9, h10, h⟩ := bnd h
  refine V_callV0 C (As := [.int ((m_cell S0) (ix p1)), .int ((m_ways S0) (ix (2 : Int32)))]) (rest := []) (by decide +kernel) ok_yX5_isLit mk_RX5_201 (cfX5_isLit (l := E.l) (G := E.G) a0 h10) (q0 := 0) rfl rfl rfl rfl rfl rfl (Nat.le_of_ble_eq_true rfl) (Nat.le_of_ble_eq_true rfl) (Nat.le_of_ble_eq_true rfl) ?_
  show V E _ (wdM E.G a0 S0) 58 [(0, .ref (a0 0)), (1, .int p1), (2, .int v2), (3, .int v3)] [.int q9]
  refine V_if_eq C (off := 5) (tgt := 63) (by decide +kernel) (by decide) h (fun _ h => ?_) (fun _ h => ?_)
  · refine V_sub (ls' := [(0, .ref (a0 0)), (1, .int p1), (2, .int v2), (3, .int v3)]) rfl ?_
    exact cfX5_lights_j63 C hn (k23 := k23) (hk23) h
  · refine V_pb C hn [(.iload_n 3, 1), (.istore_n 2, 1)] (pc' := 63) (ls' := [(0, .ref (a0 0)), (1, .int p1), (2, .int v3), (3, .int v3)]) (st' := []) (decB_ok (by decide +kernel)) rfl rfl ?_
    refine V_sub (ls' := [(0, .ref (a0 0)), (1, .int p1), (2, .int v3), (3, .int v3)]) rfl ?_
    exact cfX5_lights_j63 C hn (k23 := k23) (hk23) h
set_option maxRecDepth 100000 in
set_option maxHeartbeats 400000 in
theorem cfX5_lights_L23 {E : VE} (C : Ctx E cX5_lights RX5 8 (some .int)) (hn : E.nL = 4) {a0 : Nat → Nat} {p1 : Int32} {out : Int32 × MT} : ∀ (n : Nat) (v2 : Int32) (v3 : Int32) (S0 : MT), fX5_lights_L23 p1 n v2 v3 S0 = some out → V E (QR E (some (.int out.1)) (wdM E.G a0 out.2)) (wdM E.G a0 S0) 23 [(0, .ref (a0 0)), (1, .int p1), (2, .int v2), (3, .int v3)] [] := by
  intro n
  induction n with
  | zero =>
    intro v2 v3 S0 h
    cases h
  | succ n ih =>
    intro v2 v3 S0 h
    unfold fX5_lights_L23 at h
    refine V_pb C hn [(.iload_n 3, 1), (.bipush 24, 2)] (pc' := 26) (ls' := [(0, .ref (a0 0)), (1, .int p1), (2, .int v2), (3, .int v3)]) (st' := [.int (24 : Int32), .int v3]) (decB_ok (by decide +kernel)) rfl rfl ?_
    refine V_ic_gt C (off := 43) (tgt := 69) (by decide +kernel) (by decide) h (fun _ h => ?_) (fun _ h => ?_)
    · refine V_sub (ls' := [(0, .ref (a0 0)), (2, .int v2)]) rfl ?_
      exact cfX5_lights_j69 C hn h
    · refine V_pb C hn [(.iload_n 2, 1), (.iconst (-1), 1)] (pc' := 31) (ls' := [(0, .ref (a0 0)), (1, .int p1), (2, .int v2), (3, .int v3)]) (st' := [.int (cI (-1)), .int v2]) (decB_ok (by decide +kernel)) rfl rfl ?_
      refine V_ic_ne C (off := 38) (tgt := 69) (by decide +kernel) (by decide) h (fun _ h => ?_) (fun _ h => ?_)
      · refine V_pb C hn [(.iload_n 3, 1)] (pc' := 35) (ls' := [(0, .ref (a0 0)), (1, .int p1), (2, .int v2), (3, .int v3)]) (st' := [.int v3]) (decB_ok (by decide +kernel)) rfl rfl ?_
        refine V_if_le C (off := 7) (tgt := 42) (by decide +kernel) (by decide) h (fun _ h => ?_) (fun _ h => ?_)
        · refine V_sub (ls' := [(0, .ref (a0 0)), (1, .int p1), (2, .int v2), (3, .int v3)]) rfl ?_
          exact cfX5_lights_j42 C hn (k23 := (fun v2 v3 S0 => fX5_lights_L23 p1 n v2 v3 S0)) (fun v2 v3 S0 h => ih v2 v3 S0 h) h
        · refine V_pb C hn [(.aload_n 0, 1)] (pc' := 39) (ls' := [(0, .ref (a0 0)), (1, .int p1), (2, .int v2), (3, .int v3)]) (st' := [.ref (a0 0)]) (decB_ok (by decide +kernel)) rfl rfl ?_
          obtain ⟨q11, h12, h⟩ := bnd h
          refine V_callV0 C (As := []) (rest := []) (by decide +kernel) ok_yX5_step mk_RX5_225 (cfX5_step (l := E.l) (G := E.G) a0 h12) (q0 := 0) rfl rfl rfl rfl rfl rfl (Nat.le_of_ble_eq_true rfl) (Nat.le_of_ble_eq_true rfl) (Nat.le_of_ble_eq_true rfl) ?_
          show V E _ (wdM E.G a0 q11) 42 [(0, .ref (a0 0)), (1, .int p1), (2, .int v2), (3, .int v3)] []
          refine V_sub (ls' := [(0, .ref (a0 0)), (1, .int p1), (2, .int v2), (3, .int v3)]) rfl ?_
          exact cfX5_lights_j42 C hn (k23 := (fun v2 v3 S0 => fX5_lights_L23 p1 n v2 v3 S0)) (fun v2 v3 S0 h => ih v2 v3 S0 h) h
      · refine V_sub (ls' := [(0, .ref (a0 0)), (2, .int v2)]) rfl ?_
        exact cfX5_lights_j69 C hn h
set_option maxRecDepth 100000 in
set_option maxHeartbeats 400000 in
theorem cfX5_lights {l : Launch} {G : GG} (a0 : Nat → Nat) {p1 : Int32} {S0 : MT} {out : Int32 × MT} (h : fX5_lights p1 S0 = some out) : Con l G 8 yX5_lights cX5_lights 4 (some .int) [.ref (a0 0), .int p1] (wdM G a0 S0) (some (.int out.1)) (wdM G a0 out.2) := by
  refine Con_of (by decide +kernel) (Nat.le_of_ble_eq_true rfl) (fun E hl hG hn C => ?_)
  subst hl
  subst hG
  have C : Ctx E cX5_lights RX5 8 (some .int) := C
  show V E _ _ 0 [(0, .ref (a0 0)), (1, .int p1)] []
  unfold fX5_lights at h
  refine V_pb C hn [(.aload_n 0, 1), (.iload_n 1, 1)] (pc' := 2) (ls' := [(0, .ref (a0 0)), (1, .int p1)]) (st' := [.int p1, .ref (a0 0)]) (decB_ok (by decide +kernel)) rfl rfl ?_
  obtain ⟨q1, h2, h⟩ := bnd h
  refine V_callV0 C (As := [.int p1]) (rest := []) (by decide +kernel) ok_yX5_isMote mk_RX5_91 (cfX5_isMote (l := E.l) (G := E.G) a0 h2) (q0 := 0) rfl rfl rfl rfl rfl rfl (Nat.le_of_ble_eq_true rfl) (Nat.le_of_ble_eq_true rfl) (Nat.le_of_ble_eq_true rfl) ?_
  show V E _ (wdM E.G a0 S0) 5 [(0, .ref (a0 0)), (1, .int p1)] [.int q1]
  refine V_if_ne C (off := 10) (tgt := 15) (by decide +kernel) (by decide) h (fun _ h => ?_) (fun _ h => ?_)
  · refine V_pb C hn [(.aload_n 0, 1), (.bipush (-2), 2)] (pc' := 11) (ls' := [(0, .ref (a0 0)), (1, .int p1)]) (st' := [.int (cI (-2)), .ref (a0 0)]) (decB_ok (by decide +kernel)) rfl rfl ?_
    obtain ⟨q3, h4, h⟩ := bnd h
    refine V_callV0 C (As := [.int (cI (-2))]) (rest := []) (by decide +kernel) ok_yX5_no mk_RX5_77 (cfX5_no (l := E.l) (G := E.G) a0 h4) (q0 := 0) rfl rfl rfl rfl rfl rfl (Nat.le_of_ble_eq_true rfl) (Nat.le_of_ble_eq_true rfl) (Nat.le_of_ble_eq_true rfl) ?_
    show V E _ (wdM E.G a0 q3.2) 14 [(0, .ref (a0 0)), (1, .int p1)] [.int q3.1]
    have h := Option.some.inj h
    subst h
    exact V_iret C (by decide +kernel) rfl
  · refine V_pb C hn [(.aload_n 0, 1)] (pc' := 16) (ls' := [(0, .ref (a0 0)), (1, .int p1)]) (st' := [.ref (a0 0)]) (decB_ok (by decide +kernel)) rfl rfl ?_
    obtain ⟨q5, h6, h⟩ := bnd h
    refine V_callV0 C (As := []) (rest := []) (by decide +kernel) ok_yX5_begins mk_RX5_222 (cfX5_begins (l := E.l) (G := E.G) a0 h6) (q0 := 0) rfl rfl rfl rfl rfl rfl (Nat.le_of_ble_eq_true rfl) (Nat.le_of_ble_eq_true rfl) (Nat.le_of_ble_eq_true rfl) ?_
    show V E _ (wdM E.G a0 q5) 19 [(0, .ref (a0 0)), (1, .int p1)] []
    refine V_pb C hn [(.iconst (-1), 1), (.istore_n 2, 1), (.iconst 0, 1), (.istore_n 3, 1)] (pc' := 23) (ls' := [(0, .ref (a0 0)), (1, .int p1), (2, .int (cI (-1))), (3, .int (0 : Int32))]) (st' := []) (decB_ok (by decide +kernel)) rfl rfl ?_
    refine V_sub (ls' := [(0, .ref (a0 0)), (1, .int p1), (2, .int (cI (-1))), (3, .int (0 : Int32))]) rfl ?_
    exact cfX5_lights_L23 C hn FU _ _ _ h
set_option maxRecDepth 100000 in
set_option maxHeartbeats 400000 in
theorem cfX5_areTwo {l : Launch} {G : GG} (a0 : Nat → Nat) {p1 : Int32} {p2 : Int32} {S0 : MT} {out : Int32} (h : fX5_areTwo p1 p2 S0 = some out) : Con l G 2 yX5_areTwo cX5_areTwo 3 (some .boolean) [.ref (a0 0), .int p1, .int p2] (wdM G a0 S0) (some (.int out)) (wdM G a0 S0) := by
  refine Con_of (by decide +kernel) (Nat.le_of_ble_eq_true rfl) (fun E hl hG hn C => ?_)
  subst hl
  subst hG
  have C : Ctx E cX5_areTwo RX5 2 (some .boolean) := C
  show V E _ _ 0 [(0, .ref (a0 0)), (1, .int p1), (2, .int p2)] []
  unfold fX5_areTwo at h
  refine V_pb C hn [(.aload_n 0, 1), (.iload_n 1, 1)] (pc' := 2) (ls' := [(0, .ref (a0 0)), (1, .int p1), (2, .int p2)]) (st' := [.int p1, .ref (a0 0)]) (decB_ok (by decide +kernel)) rfl rfl ?_
  obtain ⟨q1, h2, h⟩ := bnd h
  refine V_callV0 C (As := [.int p1]) (rest := []) (by decide +kernel) ok_yX5_isMote mk_RX5_91 (cfX5_isMote (l := E.l) (G := E.G) a0 h2) (q0 := 0) rfl rfl rfl rfl rfl rfl (Nat.le_of_ble_eq_true rfl) (Nat.le_of_ble_eq_true rfl) (Nat.le_of_ble_eq_true rfl) ?_
  show V E _ (wdM E.G a0 S0) 5 [(0, .ref (a0 0)), (1, .int p1), (2, .int p2)] [.int q1]
  refine V_if_eq C (off := 20) (tgt := 25) (by decide +kernel) (by decide) h (fun _ h => ?_) (fun _ h => ?_)
  · refine V_pb C hn [(.iconst 0, 1)] (pc' := 26) (ls' := [(0, .ref (a0 0)), (1, .int p1), (2, .int p2)]) (st' := [.int (0 : Int32)]) (decB_ok (by decide +kernel)) rfl rfl ?_
    have h := Option.some.inj h
    subst h
    exact V_iret C (v := (0 : Int32)) (by decide +kernel) nb0
  · refine V_pb C hn [(.aload_n 0, 1), (.iload_n 2, 1)] (pc' := 10) (ls' := [(0, .ref (a0 0)), (1, .int p1), (2, .int p2)]) (st' := [.int p2, .ref (a0 0)]) (decB_ok (by decide +kernel)) rfl rfl ?_
    obtain ⟨q3, h4, h⟩ := bnd h
    refine V_callV0 C (As := [.int p2]) (rest := []) (by decide +kernel) ok_yX5_isMote mk_RX5_91 (cfX5_isMote (l := E.l) (G := E.G) a0 h4) (q0 := 0) rfl rfl rfl rfl rfl rfl (Nat.le_of_ble_eq_true rfl) (Nat.le_of_ble_eq_true rfl) (Nat.le_of_ble_eq_true rfl) ?_
    show V E _ (wdM E.G a0 S0) 13 [(0, .ref (a0 0)), (1, .int p1), (2, .int p2)] [.int q3]
    refine V_if_eq C (off := 12) (tgt := 25) (by decide +kernel) (by decide) h (fun _ h => ?_) (fun _ h => ?_)
    · refine V_pb C hn [(.iconst 0, 1)] (pc' := 26) (ls' := [(0, .ref (a0 0)), (1, .int p1), (2, .int p2)]) (st' := [.int (0 : Int32)]) (decB_ok (by decide +kernel)) rfl rfl ?_
      have h := Option.some.inj h
      subst h
      exact V_iret C (v := (0 : Int32)) (by decide +kernel) nb0
    · refine V_pb C hn [(.iload_n 1, 1), (.iload_n 2, 1)] (pc' := 18) (ls' := [(0, .ref (a0 0)), (1, .int p1), (2, .int p2)]) (st' := [.int p2, .int p1]) (decB_ok (by decide +kernel)) rfl rfl ?_
      refine V_ic_eq C (off := 7) (tgt := 25) (by decide +kernel) (by decide) h (fun _ h => ?_) (fun _ h => ?_)
      · refine V_pb C hn [(.iconst 0, 1)] (pc' := 26) (ls' := [(0, .ref (a0 0)), (1, .int p1), (2, .int p2)]) (st' := [.int (0 : Int32)]) (decB_ok (by decide +kernel)) rfl rfl ?_
        have h := Option.some.inj h
        subst h
        exact V_iret C (v := (0 : Int32)) (by decide +kernel) nb0
      · refine V_pb C hn [(.iconst 1, 1)] (pc' := 22) (ls' := [(0, .ref (a0 0)), (1, .int p1), (2, .int p2)]) (st' := [.int (1 : Int32)]) (decB_ok (by decide +kernel)) rfl rfl ?_
        refine V_goto C (off := 4) (tgt := 26) (by decide +kernel) (by decide) ?_
        have h := Option.some.inj h
        subst h
        exact V_iret C (v := (1 : Int32)) (by decide +kernel) nb1
set_option maxRecDepth 100000 in
set_option maxHeartbeats 400000 in
theorem cfX5_meet_j70 {E : VE} (C : Ctx E cX5_meet RX5 8 (some .int)) (hn : E.nL = 5) {a0 : Nat → Nat} {p1 : Int32} {p2 : Int32} {v3 : Int32} {S0 : MT} {out : Int32 × MT} (h : fX5_meet_j70 p1 p2 v3 S0 = some out) : V E (QR E (some (.int out.1)) (wdM E.G a0 out.2)) (wdM E.G a0 S0) 70 [(0, .ref (a0 0)), (3, .int v3)] [] := by
  unfold fX5_meet_j70 at h
  refine V_pb C hn [(.aload_n 0, 1)] (pc' := 71) (ls' := [(0, .ref (a0 0)), (3, .int v3)]) (st' := [.ref (a0 0)]) (decB_ok (by decide +kernel)) rfl rfl ?_
  obtain ⟨q7, h8, h⟩ := bnd h
  refine V_callV0 C (As := []) (rest := []) (by decide +kernel) ok_yX5_ends mk_RX5_232 (cfX5_ends (l := E.l) (G := E.G) a0 h8) (q0 := 0) rfl rfl rfl rfl rfl rfl (Nat.le_of_ble_eq_true rfl) (Nat.le_of_ble_eq_true rfl) (Nat.le_of_ble_eq_true rfl) ?_
  show V E _ (wdM E.G a0 q7) 74 [(0, .ref (a0 0)), (3, .int v3)] []
  refine V_pb C hn [(.iload_n 3, 1)] (pc' := 75) (ls' := [(0, .ref (a0 0)), (3, .int v3)]) (st' := [.int v3]) (decB_ok (by decide +kernel)) rfl rfl ?_
  have h := Option.some.inj h
  subst h
  exact V_iret C (by decide +kernel) rfl
set_option maxRecDepth 100000 in
set_option maxHeartbeats 400000 in
theorem cfX5_meet_j64 {E : VE} (C : Ctx E cX5_meet RX5 8 (some .int)) (hn : E.nL = 5) {a0 : Nat → Nat} {p1 : Int32} {p2 : Int32} {v3 : Int32} {v4 : Int32} {S0 : MT} {out : Int32 × MT} {k25 : Int32 → Int32 → MT → Option (Int32 × MT)} (hk25 : ∀ (v3 : Int32) (v4 : Int32) (S0 : MT), k25 v3 v4 S0 = some out → V E (QR E (some (.int out.1)) (wdM E.G a0 out.2)) (wdM E.G a0 S0) 25 [(0, .ref (a0 0)), (1, .int p1), (2, .int p2), (3, .int v3), (4, .int v4)] []) (h : fX5_meet_j64 k25 p1 p2 v3 v4 S0 = some out) : V E (QR E (some (.int out.1)) (wdM E.G a0 out.2)) (wdM E.G a0 S0) 64 [(0, .ref (a0 0)), (1, .int p1), (2, .int p2), (3, .int v3), (4, .int v4)] [] := by
  unfold fX5_meet_j64 at h
  refine V_pb C hn [(.iinc 4 1, 3)] (pc' := 67) (ls' := [(0, .ref (a0 0)), (1, .int p1), (2, .int p2), (3, .int v3), (4, .int (v4 + (1 : Int32)))]) (st' := []) (decB_ok (by decide +kernel)) rfl rfl ?_
  refine V_goto C (off := -42) (tgt := 25) (by decide +kernel) (by decide) ?_
  refine V_sub (ls' := [(0, .ref (a0 0)), (1, .int p1), (2, .int p2), (3, .int v3), (4, .int (v4 + (1 : Int32)))]) rfl ?_
  exact hk25 _ _ _ h
set_option maxRecDepth 100000 in
set_option maxHeartbeats 400000 in
theorem cfX5_meet_j46 {E : VE} (C : Ctx E cX5_meet RX5 8 (some .int)) (hn : E.nL = 5) {a0 : Nat → Nat} {p1 : Int32} {p2 : Int32} {v3 : Int32} {v4 : Int32} {S0 : MT} {out : Int32 × MT} {k25 : Int32 → Int32 → MT → Option (Int32 × MT)} (hk25 : ∀ (v3 : Int32) (v4 : Int32) (S0 : MT), k25 v3 v4 S0 = some out → V E (QR E (some (.int out.1)) (wdM E.G a0 out.2)) (wdM E.G a0 S0) 25 [(0, .ref (a0 0)), (1, .int p1), (2, .int p2), (3, .int v3), (4, .int v4)] []) (h : fX5_meet_j46 k25 p1 p2 v3 v4 S0 = some out) : V E (QR E (some (.int out.1)) (wdM E.G a0 out.2)) (wdM E.G a0 S0) 46 [(0, .ref (a0 0)), (1, .int p1), (2, .int p2), (3, .int v3), (4, .int v4)] [] := by
  unfold fX5_meet_j46 at h
  refine V_pb C hn [(.aload_n 0, 1)] (pc' := 47) (ls' := [(0, .ref (a0 0)), (1, .int p1), (2, .int p2), (3, .int v3), (4, .int v4)]) (st' := [.ref (a0 0)]) (decB_ok (by decide +kernel)) rfl rfl ?_
  refine V_get C (v := .ref (a0 3)) (by decide +kernel) 0 4 fk_RX5_16 rfl rfl ?_
  refine V_pb C hn [(.iload_n 1, 1)] (pc' := 51) (ls' := [(0, .ref (a0 0)), (1, .int p1), (2, .int p2), (3, .int v3), (4, .int v4)]) (st' := [.int p1, .ref (a0 3)]) (decB_ok (by decide +kernel)) rfl rfl ?_
  refine V_iald C (f := (m_cell S0)) (by decide +kernel) 3 rfl h (fun h => ?_)
  refine V_pb C hn [(.aload_n 0, 1)] (pc' := 53) (ls' := [(0, .ref (a0 0)), (1, .int p1), (2, .int p2), (3, .int v3), (4, .int v4)]) (st' := [.ref (a0 0), .int ((m_cell S0) (ix p1))]) (decB_ok (by decide +kernel)) rfl rfl ?_
  refine V_get C (v := .ref (a0 3)) (by decide +kernel) 0 4 fk_RX5_16 rfl rfl ?_
  refine V_pb C hn [(.iload_n 2, 1)] (pc' := 57) (ls' := [(0, .ref (a0 0)), (1, .int p1), (2, .int p2), (3, .int v3), (4, .int v4)]) (st' := [.int p2, .ref (a0 3), .int ((m_cell S0) (ix p1))]) (decB_ok (by decide +kernel)) rfl rfl ?_
  refine V_iald C (f := (m_cell S0)) (by decide +kernel) 3 rfl h (fun h => ?_)
  refine V_ic_ne C (off := 6) (tgt := 64) (by decide +kernel) (by decide) h (fun _ h => ?_) (fun _ h => ?_)
  · refine V_pb C hn [(.iload 4, 2), (.istore_n 3, 1)] (pc' := 64) (ls' := [(0, .ref (a0 0)), (1, .int p1), (2, .int p2), (3, .int v4), (4, .int v4)]) (st' := []) (decB_ok (by decide +kernel)) rfl rfl ?_
    refine V_sub (ls' := [(0, .ref (a0 0)), (1, .int p1), (2, .int p2), (3, .int v4), (4, .int v4)]) rfl ?_
    exact cfX5_meet_j64 C hn (k25 := k25) (hk25) h
  · refine V_sub (ls' := [(0, .ref (a0 0)), (1, .int p1), (2, .int p2), (3, .int v3), (4, .int v4)]) rfl ?_
    exact cfX5_meet_j64 C hn (k25 := k25) (hk25) h
set_option maxRecDepth 100000 in
set_option maxHeartbeats 400000 in
theorem cfX5_meet_L25 {E : VE} (C : Ctx E cX5_meet RX5 8 (some .int)) (hn : E.nL = 5) {a0 : Nat → Nat} {p1 : Int32} {p2 : Int32} {out : Int32 × MT} : ∀ (n : Nat) (v3 : Int32) (v4 : Int32) (S0 : MT), fX5_meet_L25 p1 p2 n v3 v4 S0 = some out → V E (QR E (some (.int out.1)) (wdM E.G a0 out.2)) (wdM E.G a0 S0) 25 [(0, .ref (a0 0)), (1, .int p1), (2, .int p2), (3, .int v3), (4, .int v4)] [] := by
  intro n
  induction n with
  | zero =>
    intro v3 v4 S0 h
    cases h
  | succ n ih =>
    intro v3 v4 S0 h
    unfold fX5_meet_L25 at h
    refine V_pb C hn [(.iload 4, 2), (.bipush 24, 2)] (pc' := 29) (ls' := [(0, .ref (a0 0)), (1, .int p1), (2, .int p2), (3, .int v3), (4, .int v4)]) (st' := [.int (24 : Int32), .int v4]) (decB_ok (by decide +kernel)) rfl rfl ?_
    refine V_ic_gt C (off := 41) (tgt := 70) (by decide +kernel) (by decide) h (fun _ h => ?_) (fun _ h => ?_)
    · refine V_sub (ls' := [(0, .ref (a0 0)), (3, .int v3)]) rfl ?_
      exact cfX5_meet_j70 C hn h
    · refine V_pb C hn [(.iload_n 3, 1), (.iconst (-1), 1)] (pc' := 34) (ls' := [(0, .ref (a0 0)), (1, .int p1), (2, .int p2), (3, .int v3), (4, .int v4)]) (st' := [.int (cI (-1)), .int v3]) (decB_ok (by decide +kernel)) rfl rfl ?_
      refine V_ic_ne C (off := 36) (tgt := 70) (by decide +kernel) (by decide) h (fun _ h => ?_) (fun _ h => ?_)
      · refine V_pb C hn [(.iload 4, 2)] (pc' := 39) (ls' := [(0, .ref (a0 0)), (1, .int p1), (2, .int p2), (3, .int v3), (4, .int v4)]) (st' := [.int v4]) (decB_ok (by decide +kernel)) rfl rfl ?_
        refine V_if_le C (off := 7) (tgt := 46) (by decide +kernel) (by decide) h (fun _ h => ?_) (fun _ h => ?_)
        · refine V_sub (ls' := [(0, .ref (a0 0)), (1, .int p1), (2, .int p2), (3, .int v3), (4, .int v4)]) rfl ?_
          exact cfX5_meet_j46 C hn (k25 := (fun v3 v4 S0 => fX5_meet_L25 p1 p2 n v3 v4 S0)) (fun v3 v4 S0 h => ih v3 v4 S0 h) h
        · refine V_pb C hn [(.aload_n 0, 1)] (pc' := 43) (ls' := [(0, .ref (a0 0)), (1, .int p1), (2, .int p2), (3, .int v3), (4, .int v4)]) (st' := [.ref (a0 0)]) (decB_ok (by decide +kernel)) rfl rfl ?_
          obtain ⟨q9, h10, h⟩ := bnd h
          refine V_callV0 C (As := []) (rest := []) (by decide +kernel) ok_yX5_step mk_RX5_225 (cfX5_step (l := E.l) (G := E.G) a0 h10) (q0 := 0) rfl rfl rfl rfl rfl rfl (Nat.le_of_ble_eq_true rfl) (Nat.le_of_ble_eq_true rfl) (Nat.le_of_ble_eq_true rfl) ?_
          show V E _ (wdM E.G a0 q9) 46 [(0, .ref (a0 0)), (1, .int p1), (2, .int p2), (3, .int v3), (4, .int v4)] []
          refine V_sub (ls' := [(0, .ref (a0 0)), (1, .int p1), (2, .int p2), (3, .int v3), (4, .int v4)]) rfl ?_
          exact cfX5_meet_j46 C hn (k25 := (fun v3 v4 S0 => fX5_meet_L25 p1 p2 n v3 v4 S0)) (fun v3 v4 S0 h => ih v3 v4 S0 h) h
      · refine V_sub (ls' := [(0, .ref (a0 0)), (3, .int v3)]) rfl ?_
        exact cfX5_meet_j70 C hn h
set_option maxRecDepth 100000 in
set_option maxHeartbeats 400000 in
theorem cfX5_meet {l : Launch} {G : GG} (a0 : Nat → Nat) {p1 : Int32} {p2 : Int32} {S0 : MT} {out : Int32 × MT} (h : fX5_meet p1 p2 S0 = some out) : Con l G 8 yX5_meet cX5_meet 5 (some .int) [.ref (a0 0), .int p1, .int p2] (wdM G a0 S0) (some (.int out.1)) (wdM G a0 out.2) := by
  refine Con_of (by decide +kernel) (Nat.le_of_ble_eq_true rfl) (fun E hl hG hn C => ?_)
  subst hl
  subst hG
  have C : Ctx E cX5_meet RX5 8 (some .int) := C
  show V E _ _ 0 [(0, .ref (a0 0)), (1, .int p1), (2, .int p2)] []
  unfold fX5_meet at h
  refine V_pb C hn [(.aload_n 0, 1), (.iload_n 1, 1), (.iload_n 2, 1)] (pc' := 3) (ls' := [(0, .ref (a0 0)), (1, .int p1), (2, .int p2)]) (st' := [.int p2, .int p1, .ref (a0 0)]) (decB_ok (by decide +kernel)) rfl rfl ?_
  obtain ⟨q1, h2, h⟩ := bnd h
  refine V_callV0 C (As := [.int p1, .int p2]) (rest := []) (by decide +kernel) ok_yX5_areTwo mk_RX5_328 (cfX5_areTwo (l := E.l) (G := E.G) a0 h2) (q0 := 0) rfl rfl rfl rfl rfl rfl (Nat.le_of_ble_eq_true rfl) (Nat.le_of_ble_eq_true rfl) (Nat.le_of_ble_eq_true rfl) ?_
  show V E _ (wdM E.G a0 S0) 6 [(0, .ref (a0 0)), (1, .int p1), (2, .int p2)] [.int q1]
  refine V_if_ne C (off := 10) (tgt := 16) (by decide +kernel) (by decide) h (fun _ h => ?_) (fun _ h => ?_)
  · refine V_pb C hn [(.aload_n 0, 1), (.bipush (-2), 2)] (pc' := 12) (ls' := [(0, .ref (a0 0)), (1, .int p1), (2, .int p2)]) (st' := [.int (cI (-2)), .ref (a0 0)]) (decB_ok (by decide +kernel)) rfl rfl ?_
    obtain ⟨q3, h4, h⟩ := bnd h
    refine V_callV0 C (As := [.int (cI (-2))]) (rest := []) (by decide +kernel) ok_yX5_no mk_RX5_77 (cfX5_no (l := E.l) (G := E.G) a0 h4) (q0 := 0) rfl rfl rfl rfl rfl rfl (Nat.le_of_ble_eq_true rfl) (Nat.le_of_ble_eq_true rfl) (Nat.le_of_ble_eq_true rfl) ?_
    show V E _ (wdM E.G a0 q3.2) 15 [(0, .ref (a0 0)), (1, .int p1), (2, .int p2)] [.int q3.1]
    have h := Option.some.inj h
    subst h
    exact V_iret C (by decide +kernel) rfl
  · refine V_pb C hn [(.aload_n 0, 1)] (pc' := 17) (ls' := [(0, .ref (a0 0)), (1, .int p1), (2, .int p2)]) (st' := [.ref (a0 0)]) (decB_ok (by decide +kernel)) rfl rfl ?_
    obtain ⟨q5, h6, h⟩ := bnd h
    refine V_callV0 C (As := []) (rest := []) (by decide +kernel) ok_yX5_begins mk_RX5_222 (cfX5_begins (l := E.l) (G := E.G) a0 h6) (q0 := 0) rfl rfl rfl rfl rfl rfl (Nat.le_of_ble_eq_true rfl) (Nat.le_of_ble_eq_true rfl) (Nat.le_of_ble_eq_true rfl) ?_
    show V E _ (wdM E.G a0 q5) 20 [(0, .ref (a0 0)), (1, .int p1), (2, .int p2)] []
    refine V_pb C hn [(.iconst (-1), 1), (.istore_n 3, 1), (.iconst 0, 1), (.istore 4, 2)] (pc' := 25) (ls' := [(0, .ref (a0 0)), (1, .int p1), (2, .int p2), (3, .int (cI (-1))), (4, .int (0 : Int32))]) (st' := []) (decB_ok (by decide +kernel)) rfl rfl ?_
    refine V_sub (ls' := [(0, .ref (a0 0)), (1, .int p1), (2, .int p2), (3, .int (cI (-1))), (4, .int (0 : Int32))]) rfl ?_
    exact cfX5_meet_L25 C hn FU _ _ _ h
set_option maxRecDepth 100000 in
set_option maxHeartbeats 400000 in
theorem cfX5_beamFor_j74 {E : VE} (C : Ctx E cX5_beamFor RX5 10 (some .int)) (hn : E.nL = 7) {a0 : Nat → Nat} {p1 : Int32} {v2 : Int32} {v3 : Int32} {S0 : MT} {out : Int32 × MT} (h : fX5_beamFor_j74 p1 v2 v3 S0 = some out) : V E (QR E (some (.int out.1)) (wdM E.G a0 out.2)) (wdM E.G a0 S0) 74 [(0, .ref (a0 0)), (2, .int v2), (3, .int v3)] [] := by
  unfold fX5_beamFor_j74 at h
  refine V_pb C hn [(.aload_n 0, 1)] (pc' := 75) (ls' := [(0, .ref (a0 0)), (2, .int v2), (3, .int v3)]) (st' := [.ref (a0 0)]) (decB_ok (by decide +kernel)) rfl rfl ?_
  refine V_get C (v := .ref (a0 4)) (by decide +kernel) 0 6 fk_RX5_19 rfl rfl ?_
  refine V_pb C hn [(.iconst 3, 1), (.iload_n 2, 1)] (pc' := 80) (ls' := [(0, .ref (a0 0)), (2, .int v2), (3, .int v3)]) (st' := [.int v2, .int (3 : Int32), .ref (a0 4)]) (decB_ok (by decide +kernel)) rfl rfl ?_
  obtain ⟨hb9, h⟩ := gd_some h
  obtain ⟨w5, e6, h⟩ := bnd h
  refine V_iast C (f := (m_ways S0)) (ws' := wdM E.G a0 w5) (by decide +kernel) 4 rfl (o := some ()) (out := ()) (by rw [hb9]; rfl) (by cases e6; rfl) (fun _ => ?_)
  refine V_pb C hn [(.iload_n 3, 1)] (pc' := 82) (ls' := [(0, .ref (a0 0)), (2, .int v2), (3, .int v3)]) (st' := [.int v3]) (decB_ok (by decide +kernel)) rfl rfl ?_
  have h := Option.some.inj h
  subst h
  exact V_iret C (by decide +kernel) rfl
set_option maxRecDepth 100000 in
set_option maxHeartbeats 400000 in
theorem cfX5_beamFor_j68 {E : VE} (C : Ctx E cX5_beamFor RX5 10 (some .int)) (hn : E.nL = 7) {a0 : Nat → Nat} {p1 : Int32} {v2 : Int32} {v3 : Int32} {v4 : Int32} {v5 : Int32} {S0 : MT} {out : Int32 × MT} {k29 : Int32 → Int32 → Int32 → Int32 → MT → Option (Int32 × MT)} (hk29 : ∀ (v2 : Int32) (v3 : Int32) (v4 : Int32) (v5 : Int32) (S0 : MT), k29 v2 v3 v4 v5 S0 = some out → V E (QR E (some (.int out.1)) (wdM E.G a0 out.2)) (wdM E.G a0 S0) 29 [(0, .ref (a0 0)), (1, .int p1), (2, .int v2), (3, .int v3), (4, .int v4), (5, .int v5)] []) (h : fX5_beamFor_j68 k29 p1 v2 v3 v4 v5 S0 = some out) : V E (QR E (some (.int out.1)) (wdM E.G a0 out.2)) (wdM E.G a0 S0) 68 [(0, .ref (a0 0)), (1, .int p1), (2, .int v2), (3, .int v3), (4, .int v4), (5, .int v5)] [] := by
  unfold fX5_beamFor_j68 at h
  refine V_pb C hn [(.iinc 5 1, 3)] (pc' := 71) (ls' := [(0, .ref (a0 0)), (1, .int p1), (2, .int v2), (3, .int v3), (4, .int v4), (5, .int (v5 + (1 : Int32)))]) (st' := []) (decB_ok (by decide +kernel)) rfl rfl ?_
  refine V_goto C (off := -42) (tgt := 29) (by decide +kernel) (by decide) ?_
  refine V_sub (ls' := [(0, .ref (a0 0)), (1, .int p1), (2, .int v2), (3, .int v3), (4, .int v4), (5, .int (v5 + (1 : Int32)))]) rfl ?_
  exact hk29 _ _ _ _ _ h
set_option maxRecDepth 100000 in
set_option maxHeartbeats 400000 in
theorem cfX5_beamFor_L29 {E : VE} (C : Ctx E cX5_beamFor RX5 10 (some .int)) (hn : E.nL = 7) {a0 : Nat → Nat} {p1 : Int32} {out : Int32 × MT} : ∀ (n : Nat) (v2 : Int32) (v3 : Int32) (v4 : Int32) (v5 : Int32) (S0 : MT), fX5_beamFor_L29 p1 n v2 v3 v4 v5 S0 = some out → V E (QR E (some (.int out.1)) (wdM E.G a0 out.2)) (wdM E.G a0 S0) 29 [(0, .ref (a0 0)), (1, .int p1), (2, .int v2), (3, .int v3), (4, .int v4), (5, .int v5)] [] := by
  intro n
  induction n with
  | zero =>
    intro v2 v3 v4 v5 S0 h
    cases h
  | succ n ih =>
    intro v2 v3 v4 v5 S0 h
    unfold fX5_beamFor_L29 at h
    refine V_pb C hn [(.iload 5, 2), (.bipush 7, 2)] (pc' := 33) (ls' := [(0, .ref (a0 0)), (1, .int p1), (2, .int v2), (3, .int v3), (4, .int v4), (5, .int v5)]) (st' := [.int (7 : Int32), .int v5]) (decB_ok (by decide +kernel)) rfl rfl ?_
    refine V_ic_ge C (off := 41) (tgt := 74) (by decide +kernel) (by decide) h (fun _ h => ?_) (fun _ h => ?_)
    · refine V_sub (ls' := [(0, .ref (a0 0)), (2, .int v2), (3, .int v3)]) rfl ?_
      exact cfX5_beamFor_j74 C hn h
    · refine V_pb C hn [(.aload_n 0, 1)] (pc' := 37) (ls' := [(0, .ref (a0 0)), (1, .int p1), (2, .int v2), (3, .int v3), (4, .int v4), (5, .int v5)]) (st' := [.ref (a0 0)]) (decB_ok (by decide +kernel)) rfl rfl ?_
      refine V_get C (v := .ref (a0 4)) (by decide +kernel) 0 6 fk_RX5_19 rfl rfl ?_
      refine V_pb C hn [(.iconst 3, 1), (.iload 5, 2)] (pc' := 43) (ls' := [(0, .ref (a0 0)), (1, .int p1), (2, .int v2), (3, .int v3), (4, .int v4), (5, .int v5)]) (st' := [.int v5, .int (3 : Int32), .ref (a0 4)]) (decB_ok (by decide +kernel)) rfl rfl ?_
      obtain ⟨hb9, h⟩ := gd_some h
      obtain ⟨w7, e8, h⟩ := bnd h
      refine V_iast C (f := (m_ways S0)) (ws' := wdM E.G a0 w7) (by decide +kernel) 4 rfl (o := some ()) (out := ()) (by rw [hb9]; rfl) (by cases e8; rfl) (fun _ => ?_)
      refine V_pb C hn [(.aload_n 0, 1), (.iload_n 1, 1)] (pc' := 46) (ls' := [(0, .ref (a0 0)), (1, .int p1), (2, .int v2), (3, .int v3), (4, .int v4), (5, .int v5)]) (st' := [.int p1, .ref (a0 0)]) (decB_ok (by decide +kernel)) rfl rfl ?_
      obtain ⟨q9, h10, h⟩ := bnd h
      refine V_callV0 C (As := [.int p1]) (rest := []) (by decide +kernel) ok_yX5_votesBehind mk_RX5_235 (cfX5_votesBehind (l := E.l) (G := E.G) a0 h10) (q0 := 0) rfl rfl rfl rfl rfl rfl (Nat.le_of_ble_eq_true rfl) (Nat.le_of_ble_eq_true rfl) (Nat.le_of_ble_eq_true rfl) ?_
      show V E _ (wdM E.G a0 q9.2) 49 [(0, .ref (a0 0)), (1, .int p1), (2, .int v2), (3, .int v3), (4, .int v4), (5, .int v5)] [.int q9.1]
      refine V_pb C hn [(.istore 6, 2), (.iload 6, 2), (.iload 4, 2)] (pc' := 55) (ls' := [(0, .ref (a0 0)), (1, .int p1), (2, .int v2), (3, .int v3), (4, .int v4), (5, .int v5), (6, .int q9.1)]) (st' := [.int v4, .int q9.1]) (decB_ok (by decide +kernel)) rfl rfl ?_
      refine V_ic_gt C (off := 6) (tgt := 61) (by decide +kernel) (by decide) h (fun _ h => ?_) (fun _ h => ?_)
      · refine V_pb C hn [(.iload 6, 2), (.istore 4, 2), (.iload 5, 2), (.istore_n 3, 1)] (pc' := 68) (ls' := [(0, .ref (a0 0)), (1, .int p1), (2, .int v2), (3, .int v5), (4, .int q9.1), (5, .int v5), (6, .int q9.1)]) (st' := []) (decB_ok (by decide +kernel)) rfl rfl ?_
        refine V_sub (ls' := [(0, .ref (a0 0)), (1, .int p1), (2, .int v2), (3, .int v5), (4, .int q9.1), (5, .int v5)]) rfl ?_
        exact cfX5_beamFor_j68 C hn (k29 := (fun v2 v3 v4 v5 S0 => fX5_beamFor_L29 p1 n v2 v3 v4 v5 S0)) (fun v2 v3 v4 v5 S0 h => ih v2 v3 v4 v5 S0 h) h
      · refine V_goto C (off := 10) (tgt := 68) (by decide +kernel) (by decide) ?_
        refine V_sub (ls' := [(0, .ref (a0 0)), (1, .int p1), (2, .int v2), (3, .int v3), (4, .int v4), (5, .int v5)]) rfl ?_
        exact cfX5_beamFor_j68 C hn (k29 := (fun v2 v3 v4 v5 S0 => fX5_beamFor_L29 p1 n v2 v3 v4 v5 S0)) (fun v2 v3 v4 v5 S0 h => ih v2 v3 v4 v5 S0 h) h
set_option maxRecDepth 100000 in
set_option maxHeartbeats 400000 in
theorem cfX5_beamFor {l : Launch} {G : GG} (a0 : Nat → Nat) {p1 : Int32} {S0 : MT} {out : Int32 × MT} (h : fX5_beamFor p1 S0 = some out) : Con l G 10 yX5_beamFor cX5_beamFor 7 (some .int) [.ref (a0 0), .int p1] (wdM G a0 S0) (some (.int out.1)) (wdM G a0 out.2) := by
  refine Con_of (by decide +kernel) (Nat.le_of_ble_eq_true rfl) (fun E hl hG hn C => ?_)
  subst hl
  subst hG
  have C : Ctx E cX5_beamFor RX5 10 (some .int) := C
  show V E _ _ 0 [(0, .ref (a0 0)), (1, .int p1)] []
  unfold fX5_beamFor at h
  refine V_pb C hn [(.iload_n 1, 1)] (pc' := 1) (ls' := [(0, .ref (a0 0)), (1, .int p1)]) (st' := [.int p1]) (decB_ok (by decide +kernel)) rfl rfl ?_
  obtain ⟨q1, h2, h⟩ := bnd h
  refine V_callSp C (As := [.int p1]) (rest := []) (by decide +kernel) ok_yX5_isTime mk_RX5_241 (cfX5_isTime (l := E.l) (G := E.G) h2) [] rfl rfl rfl rfl (Nat.le_of_ble_eq_true rfl) (Nat.le_of_ble_eq_true rfl) (Nat.le_of_ble_eq_true rfl) ?_
  show V E _ (wdM E.G a0 S0) 4 [(0, .ref (a0 0)), (1, .int p1)] [.int q1]
  refine V_if_ne C (off := 10) (tgt := 14) (by decide +kernel) (by decide) h (fun _ h => ?_) (fun _ h => ?_)
  · refine V_pb C hn [(.aload_n 0, 1), (.bipush (-2), 2)] (pc' := 10) (ls' := [(0, .ref (a0 0)), (1, .int p1)]) (st' := [.int (cI (-2)), .ref (a0 0)]) (decB_ok (by decide +kernel)) rfl rfl ?_
    obtain ⟨q3, h4, h⟩ := bnd h
    refine V_callV0 C (As := [.int (cI (-2))]) (rest := []) (by decide +kernel) ok_yX5_no mk_RX5_77 (cfX5_no (l := E.l) (G := E.G) a0 h4) (q0 := 0) rfl rfl rfl rfl rfl rfl (Nat.le_of_ble_eq_true rfl) (Nat.le_of_ble_eq_true rfl) (Nat.le_of_ble_eq_true rfl) ?_
    show V E _ (wdM E.G a0 q3.2) 13 [(0, .ref (a0 0)), (1, .int p1)] [.int q3.1]
    have h := Option.some.inj h
    subst h
    exact V_iret C (by decide +kernel) rfl
  · refine V_pb C hn [(.aload_n 0, 1)] (pc' := 15) (ls' := [(0, .ref (a0 0)), (1, .int p1)]) (st' := [.ref (a0 0)]) (decB_ok (by decide +kernel)) rfl rfl ?_
    refine V_get C (v := .ref (a0 4)) (by decide +kernel) 0 6 fk_RX5_19 rfl rfl ?_
    refine V_pb C hn [(.iconst 3, 1)] (pc' := 19) (ls' := [(0, .ref (a0 0)), (1, .int p1)]) (st' := [.int (3 : Int32), .ref (a0 4)]) (decB_ok (by decide +kernel)) rfl rfl ?_
    refine V_iald C (f := (m_ways S0)) (by decide +kernel) 4 rfl h (fun h => ?_)
    refine V_pb C hn [(.istore_n 2, 1), (.iconst 0, 1), (.istore_n 3, 1), (.iconst (-1), 1), (.istore 4, 2), (.iconst 0, 1), (.istore 5, 2)] (pc' := 29) (ls' := [(0, .ref (a0 0)), (1, .int p1), (2, .int ((m_ways S0) (ix (3 : Int32)))), (3, .int (0 : Int32)), (4, .int (cI (-1))), (5, .int (0 : Int32))]) (st' := []) (decB_ok (by decide +kernel)) rfl rfl ?_
    refine V_sub (ls' := [(0, .ref (a0 0)), (1, .int p1), (2, .int ((m_ways S0) (ix (3 : Int32)))), (3, .int (0 : Int32)), (4, .int (cI (-1))), (5, .int (0 : Int32))]) rfl ?_
    exact cfX5_beamFor_L29 C hn FU _ _ _ _ _ h
set_option maxRecDepth 100000 in
set_option maxHeartbeats 400000 in
theorem cfX5_warmthFor_j57 {E : VE} (C : Ctx E cX5_warmthFor RX5 11 (some .int)) (hn : E.nL = 5) {a0 : Nat → Nat} {p1 : Int32} {v2 : Int32} {v3 : Int32} {S0 : MT} {out : Int32 × MT} (h : fX5_warmthFor_j57 p1 v2 v3 S0 = some out) : V E (QR E (some (.int out.1)) (wdM E.G a0 out.2)) (wdM E.G a0 S0) 57 [(0, .ref (a0 0)), (2, .int v2), (3, .int v3)] [] := by
  unfold fX5_warmthFor_j57 at h
  refine V_pb C hn [(.aload_n 0, 1)] (pc' := 58) (ls' := [(0, .ref (a0 0)), (2, .int v2), (3, .int v3)]) (st' := [.ref (a0 0)]) (decB_ok (by decide +kernel)) rfl rfl ?_
  refine V_get C (v := .ref (a0 4)) (by decide +kernel) 0 6 fk_RX5_19 rfl rfl ?_
  refine V_pb C hn [(.iconst 1, 1), (.iload_n 2, 1)] (pc' := 63) (ls' := [(0, .ref (a0 0)), (2, .int v2), (3, .int v3)]) (st' := [.int v2, .int (1 : Int32), .ref (a0 4)]) (decB_ok (by decide +kernel)) rfl rfl ?_
  obtain ⟨hb9, h⟩ := gd_some h
  obtain ⟨w5, e6, h⟩ := bnd h
  refine V_iast C (f := (m_ways S0)) (ws' := wdM E.G a0 w5) (by decide +kernel) 4 rfl (o := some ()) (out := ()) (by rw [hb9]; rfl) (by cases e6; rfl) (fun _ => ?_)
  refine V_pb C hn [(.iload_n 3, 1)] (pc' := 65) (ls' := [(0, .ref (a0 0)), (2, .int v2), (3, .int v3)]) (st' := [.int v3]) (decB_ok (by decide +kernel)) rfl rfl ?_
  have h := Option.some.inj h
  subst h
  exact V_iret C (by decide +kernel) rfl
set_option maxRecDepth 100000 in
set_option maxHeartbeats 400000 in
theorem cfX5_warmthFor_j51 {E : VE} (C : Ctx E cX5_warmthFor RX5 11 (some .int)) (hn : E.nL = 5) {a0 : Nat → Nat} {p1 : Int32} {v2 : Int32} {v3 : Int32} {v4 : Int32} {S0 : MT} {out : Int32 × MT} {k27 : Int32 → Int32 → Int32 → MT → Option (Int32 × MT)} (hk27 : ∀ (v2 : Int32) (v3 : Int32) (v4 : Int32) (S0 : MT), k27 v2 v3 v4 S0 = some out → V E (QR E (some (.int out.1)) (wdM E.G a0 out.2)) (wdM E.G a0 S0) 27 [(0, .ref (a0 0)), (1, .int p1), (2, .int v2), (3, .int v3), (4, .int v4)] []) (h : fX5_warmthFor_j51 k27 p1 v2 v3 v4 S0 = some out) : V E (QR E (some (.int out.1)) (wdM E.G a0 out.2)) (wdM E.G a0 S0) 51 [(0, .ref (a0 0)), (1, .int p1), (2, .int v2), (3, .int v3), (4, .int v4)] [] := by
  unfold fX5_warmthFor_j51 at h
  refine V_pb C hn [(.iinc 4 (-1), 3)] (pc' := 54) (ls' := [(0, .ref (a0 0)), (1, .int p1), (2, .int v2), (3, .int v3), (4, .int (v4 + (cI (-1))))]) (st' := []) (decB_ok (by decide +kernel)) rfl rfl ?_
  refine V_goto C (off := -27) (tgt := 27) (by decide +kernel) (by decide) ?_
  refine V_sub (ls' := [(0, .ref (a0 0)), (1, .int p1), (2, .int v2), (3, .int v3), (4, .int (v4 + (cI (-1))))]) rfl ?_
  exact hk27 _ _ _ _ h
set_option maxRecDepth 100000 in
set_option maxHeartbeats 400000 in
theorem cfX5_warmthFor_L27 {E : VE} (C : Ctx E cX5_warmthFor RX5 11 (some .int)) (hn : E.nL = 5) {a0 : Nat → Nat} {p1 : Int32} {out : Int32 × MT} : ∀ (n : Nat) (v2 : Int32) (v3 : Int32) (v4 : Int32) (S0 : MT), fX5_warmthFor_L27 p1 n v2 v3 v4 S0 = some out → V E (QR E (some (.int out.1)) (wdM E.G a0 out.2)) (wdM E.G a0 S0) 27 [(0, .ref (a0 0)), (1, .int p1), (2, .int v2), (3, .int v3), (4, .int v4)] [] := by
  intro n
  induction n with
  | zero =>
    intro v2 v3 v4 S0 h
    cases h
  | succ n ih =>
    intro v2 v3 v4 S0 h
    unfold fX5_warmthFor_L27 at h
    refine V_pb C hn [(.iload 4, 2)] (pc' := 29) (ls' := [(0, .ref (a0 0)), (1, .int p1), (2, .int v2), (3, .int v3), (4, .int v4)]) (st' := [.int v4]) (decB_ok (by decide +kernel)) rfl rfl ?_
    refine V_if_lt C (off := 28) (tgt := 57) (by decide +kernel) (by decide) h (fun _ h => ?_) (fun _ h => ?_)
    · refine V_sub (ls' := [(0, .ref (a0 0)), (2, .int v2), (3, .int v3)]) rfl ?_
      exact cfX5_warmthFor_j57 C hn h
    · refine V_pb C hn [(.aload_n 0, 1)] (pc' := 33) (ls' := [(0, .ref (a0 0)), (1, .int p1), (2, .int v2), (3, .int v3), (4, .int v4)]) (st' := [.ref (a0 0)]) (decB_ok (by decide +kernel)) rfl rfl ?_
      refine V_get C (v := .ref (a0 4)) (by decide +kernel) 0 6 fk_RX5_19 rfl rfl ?_
      refine V_pb C hn [(.iconst 1, 1), (.iload 4, 2)] (pc' := 39) (ls' := [(0, .ref (a0 0)), (1, .int p1), (2, .int v2), (3, .int v3), (4, .int v4)]) (st' := [.int v4, .int (1 : Int32), .ref (a0 4)]) (decB_ok (by decide +kernel)) rfl rfl ?_
      obtain ⟨hb9, h⟩ := gd_some h
      obtain ⟨w7, e8, h⟩ := bnd h
      refine V_iast C (f := (m_ways S0)) (ws' := wdM E.G a0 w7) (by decide +kernel) 4 rfl (o := some ()) (out := ()) (by rw [hb9]; rfl) (by cases e8; rfl) (fun _ => ?_)
      refine V_pb C hn [(.aload_n 0, 1), (.iload_n 1, 1)] (pc' := 42) (ls' := [(0, .ref (a0 0)), (1, .int p1), (2, .int v2), (3, .int v3), (4, .int v4)]) (st' := [.int p1, .ref (a0 0)]) (decB_ok (by decide +kernel)) rfl rfl ?_
      obtain ⟨q9, h10, h⟩ := bnd h
      refine V_callV0 C (As := [.int p1]) (rest := []) (by decide +kernel) ok_yX5_carriesBehind mk_RX5_268 (cfX5_carriesBehind (l := E.l) (G := E.G) a0 h10) (q0 := 0) rfl rfl rfl rfl rfl rfl (Nat.le_of_ble_eq_true rfl) (Nat.le_of_ble_eq_true rfl) (Nat.le_of_ble_eq_true rfl) ?_
      show V E _ (wdM E.G a0 q9.2) 45 [(0, .ref (a0 0)), (1, .int p1), (2, .int v2), (3, .int v3), (4, .int v4)] [.int q9.1]
      refine V_if_eq C (off := 6) (tgt := 51) (by decide +kernel) (by decide) h (fun _ h => ?_) (fun _ h => ?_)
      · refine V_sub (ls' := [(0, .ref (a0 0)), (1, .int p1), (2, .int v2), (3, .int v3), (4, .int v4)]) rfl ?_
        exact cfX5_warmthFor_j51 C hn (k27 := (fun v2 v3 v4 S0 => fX5_warmthFor_L27 p1 n v2 v3 v4 S0)) (fun v2 v3 v4 S0 h => ih v2 v3 v4 S0 h) h
      · refine V_pb C hn [(.iload 4, 2), (.istore_n 3, 1)] (pc' := 51) (ls' := [(0, .ref (a0 0)), (1, .int p1), (2, .int v2), (3, .int v4), (4, .int v4)]) (st' := []) (decB_ok (by decide +kernel)) rfl rfl ?_
        refine V_sub (ls' := [(0, .ref (a0 0)), (1, .int p1), (2, .int v2), (3, .int v4), (4, .int v4)]) rfl ?_
        exact cfX5_warmthFor_j51 C hn (k27 := (fun v2 v3 v4 S0 => fX5_warmthFor_L27 p1 n v2 v3 v4 S0)) (fun v2 v3 v4 S0 h => ih v2 v3 v4 S0 h) h
set_option maxRecDepth 100000 in
set_option maxHeartbeats 400000 in
theorem cfX5_warmthFor {l : Launch} {G : GG} (a0 : Nat → Nat) {p1 : Int32} {S0 : MT} {out : Int32 × MT} (h : fX5_warmthFor p1 S0 = some out) : Con l G 11 yX5_warmthFor cX5_warmthFor 5 (some .int) [.ref (a0 0), .int p1] (wdM G a0 S0) (some (.int out.1)) (wdM G a0 out.2) := by
  refine Con_of (by decide +kernel) (Nat.le_of_ble_eq_true rfl) (fun E hl hG hn C => ?_)
  subst hl
  subst hG
  have C : Ctx E cX5_warmthFor RX5 11 (some .int) := C
  show V E _ _ 0 [(0, .ref (a0 0)), (1, .int p1)] []
  unfold fX5_warmthFor at h
  refine V_pb C hn [(.iload_n 1, 1)] (pc' := 1) (ls' := [(0, .ref (a0 0)), (1, .int p1)]) (st' := [.int p1]) (decB_ok (by decide +kernel)) rfl rfl ?_
  obtain ⟨q1, h2, h⟩ := bnd h
  refine V_callSp C (As := [.int p1]) (rest := []) (by decide +kernel) ok_yX5_isTime mk_RX5_241 (cfX5_isTime (l := E.l) (G := E.G) h2) [] rfl rfl rfl rfl (Nat.le_of_ble_eq_true rfl) (Nat.le_of_ble_eq_true rfl) (Nat.le_of_ble_eq_true rfl) ?_
  show V E _ (wdM E.G a0 S0) 4 [(0, .ref (a0 0)), (1, .int p1)] [.int q1]
  refine V_if_ne C (off := 10) (tgt := 14) (by decide +kernel) (by decide) h (fun _ h => ?_) (fun _ h => ?_)
  · refine V_pb C hn [(.aload_n 0, 1), (.bipush (-2), 2)] (pc' := 10) (ls' := [(0, .ref (a0 0)), (1, .int p1)]) (st' := [.int (cI (-2)), .ref (a0 0)]) (decB_ok (by decide +kernel)) rfl rfl ?_
    obtain ⟨q3, h4, h⟩ := bnd h
    refine V_callV0 C (As := [.int (cI (-2))]) (rest := []) (by decide +kernel) ok_yX5_no mk_RX5_77 (cfX5_no (l := E.l) (G := E.G) a0 h4) (q0 := 0) rfl rfl rfl rfl rfl rfl (Nat.le_of_ble_eq_true rfl) (Nat.le_of_ble_eq_true rfl) (Nat.le_of_ble_eq_true rfl) ?_
    show V E _ (wdM E.G a0 q3.2) 13 [(0, .ref (a0 0)), (1, .int p1)] [.int q3.1]
    have h := Option.some.inj h
    subst h
    exact V_iret C (by decide +kernel) rfl
  · refine V_pb C hn [(.aload_n 0, 1)] (pc' := 15) (ls' := [(0, .ref (a0 0)), (1, .int p1)]) (st' := [.ref (a0 0)]) (decB_ok (by decide +kernel)) rfl rfl ?_
    refine V_get C (v := .ref (a0 4)) (by decide +kernel) 0 6 fk_RX5_19 rfl rfl ?_
    refine V_pb C hn [(.iconst 1, 1)] (pc' := 19) (ls' := [(0, .ref (a0 0)), (1, .int p1)]) (st' := [.int (1 : Int32), .ref (a0 4)]) (decB_ok (by decide +kernel)) rfl rfl ?_
    refine V_iald C (f := (m_ways S0)) (by decide +kernel) 4 rfl h (fun h => ?_)
    refine V_pb C hn [(.istore_n 2, 1), (.iconst (-1), 1), (.istore_n 3, 1), (.bipush 9, 2), (.istore 4, 2)] (pc' := 27) (ls' := [(0, .ref (a0 0)), (1, .int p1), (2, .int ((m_ways S0) (ix (1 : Int32)))), (3, .int (cI (-1))), (4, .int (9 : Int32))]) (st' := []) (decB_ok (by decide +kernel)) rfl rfl ?_
    refine V_sub (ls' := [(0, .ref (a0 0)), (1, .int p1), (2, .int ((m_ways S0) (ix (1 : Int32)))), (3, .int (cI (-1))), (4, .int (9 : Int32))]) rfl ?_
    exact cfX5_warmthFor_L27 C hn FU _ _ _ _ h
set_option maxRecDepth 100000 in
set_option maxHeartbeats 400000 in
theorem cfX5_bestCell_j15 {E : VE} (C : Ctx E cX5_bestCell RX5 10 (some .int)) (hn : E.nL = 8) {a0 : Nat → Nat} {p1 : Int32} {p2 : Int32} {S0 : MT} {out : Int32 × MT} (h : fX5_bestCell_j15 p1 p2 S0 = some out) : V E (QR E (some (.int out.1)) (wdM E.G a0 out.2)) (wdM E.G a0 S0) 15 [(0, .ref (a0 0))] [] := by
  unfold fX5_bestCell_j15 at h
  refine V_pb C hn [(.aload_n 0, 1), (.bipush (-2), 2)] (pc' := 18) (ls' := [(0, .ref (a0 0))]) (st' := [.int (cI (-2)), .ref (a0 0)]) (decB_ok (by decide +kernel)) rfl rfl ?_
  obtain ⟨q3, h4, h⟩ := bnd h
  refine V_callV0 C (As := [.int (cI (-2))]) (rest := []) (by decide +kernel) ok_yX5_no mk_RX5_77 (cfX5_no (l := E.l) (G := E.G) a0 h4) (q0 := 0) rfl rfl rfl rfl rfl rfl (Nat.le_of_ble_eq_true rfl) (Nat.le_of_ble_eq_true rfl) (Nat.le_of_ble_eq_true rfl) ?_
  show V E _ (wdM E.G a0 q3.2) 21 [(0, .ref (a0 0))] [.int q3.1]
  have h := Option.some.inj h
  subst h
  exact V_iret C (by decide +kernel) rfl
set_option maxRecDepth 100000 in
set_option maxHeartbeats 400000 in
theorem cfX5_bestCell_j96 {E : VE} (C : Ctx E cX5_bestCell RX5 10 (some .int)) (hn : E.nL = 8) {a0 : Nat → Nat} {p1 : Int32} {p2 : Int32} {v3 : Int32} {v4 : Int32} {S0 : MT} {out : Int32 × MT} (h : fX5_bestCell_j96 p1 p2 v3 v4 S0 = some out) : V E (QR E (some (.int out.1)) (wdM E.G a0 out.2)) (wdM E.G a0 S0) 96 [(0, .ref (a0 0)), (1, .int p1), (3, .int v3), (4, .int v4)] [] := by
  unfold fX5_bestCell_j96 at h
  refine V_pb C hn [(.aload_n 0, 1)] (pc' := 97) (ls' := [(0, .ref (a0 0)), (1, .int p1), (3, .int v3), (4, .int v4)]) (st' := [.ref (a0 0)]) (decB_ok (by decide +kernel)) rfl rfl ?_
  refine V_get C (v := .ref (a0 3)) (by decide +kernel) 0 4 fk_RX5_16 rfl rfl ?_
  refine V_pb C hn [(.iload_n 1, 1), (.iload_n 3, 1)] (pc' := 102) (ls' := [(0, .ref (a0 0)), (1, .int p1), (3, .int v3), (4, .int v4)]) (st' := [.int v3, .int p1, .ref (a0 3)]) (decB_ok (by decide +kernel)) rfl rfl ?_
  obtain ⟨hb9, h⟩ := gd_some h
  obtain ⟨w7, e8, h⟩ := bnd h
  refine V_iast C (f := (m_cell S0)) (ws' := wdM E.G a0 w7) (by decide +kernel) 3 rfl (o := some ()) (out := ()) (by rw [hb9]; rfl) (by cases e8; rfl) (fun _ => ?_)
  refine V_pb C hn [(.iload 4, 2)] (pc' := 105) (ls' := [(0, .ref (a0 0)), (1, .int p1), (3, .int v3), (4, .int v4)]) (st' := [.int v4]) (decB_ok (by decide +kernel)) rfl rfl ?_
  have h := Option.some.inj h
  subst h
  exact V_iret C (by decide +kernel) rfl
set_option maxRecDepth 100000 in
set_option maxHeartbeats 400000 in
theorem cfX5_bestCell_j90 {E : VE} (C : Ctx E cX5_bestCell RX5 10 (some .int)) (hn : E.nL = 8) {a0 : Nat → Nat} {p1 : Int32} {p2 : Int32} {v3 : Int32} {v4 : Int32} {v5 : Int32} {v6 : Int32} {S0 : MT} {out : Int32 × MT} {k38 : Int32 → Int32 → Int32 → Int32 → MT → Option (Int32 × MT)} (hk38 : ∀ (v3 : Int32) (v4 : Int32) (v5 : Int32) (v6 : Int32) (S0 : MT), k38 v3 v4 v5 v6 S0 = some out → V E (QR E (some (.int out.1)) (wdM E.G a0 out.2)) (wdM E.G a0 S0) 38 [(0, .ref (a0 0)), (1, .int p1), (2, .int p2), (3, .int v3), (4, .int v4), (5, .int v5), (6, .int v6)] []) (h : fX5_bestCell_j90 k38 p1 p2 v3 v4 v5 v6 S0 = some out) : V E (QR E (some (.int out.1)) (wdM E.G a0 out.2)) (wdM E.G a0 S0) 90 [(0, .ref (a0 0)), (1, .int p1), (2, .int p2), (3, .int v3), (4, .int v4), (5, .int v5), (6, .int v6)] [] := by
  unfold fX5_bestCell_j90 at h
  refine V_pb C hn [(.iinc 6 1, 3)] (pc' := 93) (ls' := [(0, .ref (a0 0)), (1, .int p1), (2, .int p2), (3, .int v3), (4, .int v4), (5, .int v5), (6, .int (v6 + (1 : Int32)))]) (st' := []) (decB_ok (by decide +kernel)) rfl rfl ?_
  refine V_goto C (off := -55) (tgt := 38) (by decide +kernel) (by decide) ?_
  refine V_sub (ls' := [(0, .ref (a0 0)), (1, .int p1), (2, .int p2), (3, .int v3), (4, .int v4), (5, .int v5), (6, .int (v6 + (1 : Int32)))]) rfl ?_
  exact hk38 _ _ _ _ _ h
set_option maxRecDepth 100000 in
set_option maxHeartbeats 400000 in
theorem cfX5_bestCell_L38 {E : VE} (C : Ctx E cX5_bestCell RX5 10 (some .int)) (hn : E.nL = 8) {a0 : Nat → Nat} {p1 : Int32} {p2 : Int32} {out : Int32 × MT} : ∀ (n : Nat) (v3 : Int32) (v4 : Int32) (v5 : Int32) (v6 : Int32) (S0 : MT), fX5_bestCell_L38 p1 p2 n v3 v4 v5 v6 S0 = some out → V E (QR E (some (.int out.1)) (wdM E.G a0 out.2)) (wdM E.G a0 S0) 38 [(0, .ref (a0 0)), (1, .int p1), (2, .int p2), (3, .int v3), (4, .int v4), (5, .int v5), (6, .int v6)] [] := by
  intro n
  induction n with
  | zero =>
    intro v3 v4 v5 v6 S0 h
    cases h
  | succ n ih =>
    intro v3 v4 v5 v6 S0 h
    unfold fX5_bestCell_L38 at h
    refine V_pb C hn [(.iload 6, 2), (.bipush 67, 2)] (pc' := 42) (ls' := [(0, .ref (a0 0)), (1, .int p1), (2, .int p2), (3, .int v3), (4, .int v4), (5, .int v5), (6, .int v6)]) (st' := [.int (67 : Int32), .int v6]) (decB_ok (by decide +kernel)) rfl rfl ?_
    refine V_ic_ge C (off := 54) (tgt := 96) (by decide +kernel) (by decide) h (fun _ h => ?_) (fun _ h => ?_)
    · refine V_sub (ls' := [(0, .ref (a0 0)), (1, .int p1), (3, .int v3), (4, .int v4)]) rfl ?_
      exact cfX5_bestCell_j96 C hn h
    · refine V_pb C hn [(.aload_n 0, 1), (.iload 6, 2)] (pc' := 48) (ls' := [(0, .ref (a0 0)), (1, .int p1), (2, .int p2), (3, .int v3), (4, .int v4), (5, .int v5), (6, .int v6)]) (st' := [.int v6, .ref (a0 0)]) (decB_ok (by decide +kernel)) rfl rfl ?_
      obtain ⟨q9, h10, h⟩ := bnd h
      refine V_callV0 C (As := [.int v6]) (rest := []) (by decide +kernel) ok_yX5_isCell mk_RX5_102 (cfX5_isCell (l := E.l) (G := E.G) a0 h10) (q0 := 0) rfl rfl rfl rfl rfl rfl (Nat.le_of_ble_eq_true rfl) (Nat.le_of_ble_eq_true rfl) (Nat.le_of_ble_eq_true rfl) ?_
      show V E _ (wdM E.G a0 S0) 51 [(0, .ref (a0 0)), (1, .int p1), (2, .int p2), (3, .int v3), (4, .int v4), (5, .int v5), (6, .int v6)] [.int q9]
      refine V_if_ne C (off := 6) (tgt := 57) (by decide +kernel) (by decide) h (fun _ h => ?_) (fun _ h => ?_)
      · refine V_goto C (off := 36) (tgt := 90) (by decide +kernel) (by decide) ?_
        refine V_sub (ls' := [(0, .ref (a0 0)), (1, .int p1), (2, .int p2), (3, .int v3), (4, .int v4), (5, .int v5), (6, .int v6)]) rfl ?_
        exact cfX5_bestCell_j90 C hn (k38 := (fun v3 v4 v5 v6 S0 => fX5_bestCell_L38 p1 p2 n v3 v4 v5 v6 S0)) (fun v3 v4 v5 v6 S0 h => ih v3 v4 v5 v6 S0 h) h
      · refine V_pb C hn [(.aload_n 0, 1)] (pc' := 58) (ls' := [(0, .ref (a0 0)), (1, .int p1), (2, .int p2), (3, .int v3), (4, .int v4), (5, .int v5), (6, .int v6)]) (st' := [.ref (a0 0)]) (decB_ok (by decide +kernel)) rfl rfl ?_
        refine V_get C (v := .ref (a0 3)) (by decide +kernel) 0 4 fk_RX5_16 rfl rfl ?_
        refine V_pb C hn [(.iload_n 1, 1), (.iload 6, 2)] (pc' := 64) (ls' := [(0, .ref (a0 0)), (1, .int p1), (2, .int p2), (3, .int v3), (4, .int v4), (5, .int v5), (6, .int v6)]) (st' := [.int v6, .int p1, .ref (a0 3)]) (decB_ok (by decide +kernel)) rfl rfl ?_
        obtain ⟨hb9, h⟩ := gd_some h
        obtain ⟨w11, e12, h⟩ := bnd h
        refine V_iast C (f := (m_cell S0)) (ws' := wdM E.G a0 w11) (by decide +kernel) 3 rfl (o := some ()) (out := ()) (by rw [hb9]; rfl) (by cases e12; rfl) (fun _ => ?_)
        refine V_pb C hn [(.aload_n 0, 1), (.iload_n 2, 1)] (pc' := 67) (ls' := [(0, .ref (a0 0)), (1, .int p1), (2, .int p2), (3, .int v3), (4, .int v4), (5, .int v5), (6, .int v6)]) (st' := [.int p2, .ref (a0 0)]) (decB_ok (by decide +kernel)) rfl rfl ?_
        obtain ⟨q13, h14, h⟩ := bnd h
        refine V_callV0 C (As := [.int p2]) (rest := []) (by decide +kernel) ok_yX5_votesBehind mk_RX5_235 (cfX5_votesBehind (l := E.l) (G := E.G) a0 h14) (q0 := 0) rfl rfl rfl rfl rfl rfl (Nat.le_of_ble_eq_true rfl) (Nat.le_of_ble_eq_true rfl) (Nat.le_of_ble_eq_true rfl) ?_
        show V E _ (wdM E.G a0 q13.2) 70 [(0, .ref (a0 0)), (1, .int p1), (2, .int p2), (3, .int v3), (4, .int v4), (5, .int v5), (6, .int v6)] [.int q13.1]
        refine V_pb C hn [(.istore 7, 2), (.iload 7, 2), (.iload 5, 2)] (pc' := 76) (ls' := [(0, .ref (a0 0)), (1, .int p1), (2, .int p2), (3, .int v3), (4, .int v4), (5, .int v5), (6, .int v6), (7, .int q13.1)]) (st' := [.int v5, .int q13.1]) (decB_ok (by decide +kernel)) rfl rfl ?_
        refine V_ic_gt C (off := 6) (tgt := 82) (by decide +kernel) (by decide) h (fun _ h => ?_) (fun _ h => ?_)
        · refine V_pb C hn [(.iload 7, 2), (.istore 5, 2), (.iload 6, 2), (.istore 4, 2)] (pc' := 90) (ls' := [(0, .ref (a0 0)), (1, .int p1), (2, .int p2), (3, .int v3), (4, .int v6), (5, .int q13.1), (6, .int v6), (7, .int q13.1)]) (st' := []) (decB_ok (by decide +kernel)) rfl rfl ?_
          refine V_sub (ls' := [(0, .ref (a0 0)), (1, .int p1), (2, .int p2), (3, .int v3), (4, .int v6), (5, .int q13.1), (6, .int v6)]) rfl ?_
          exact cfX5_bestCell_j90 C hn (k38 := (fun v3 v4 v5 v6 S0 => fX5_bestCell_L38 p1 p2 n v3 v4 v5 v6 S0)) (fun v3 v4 v5 v6 S0 h => ih v3 v4 v5 v6 S0 h) h
        · refine V_goto C (off := 11) (tgt := 90) (by decide +kernel) (by decide) ?_
          refine V_sub (ls' := [(0, .ref (a0 0)), (1, .int p1), (2, .int p2), (3, .int v3), (4, .int v4), (5, .int v5), (6, .int v6)]) rfl ?_
          exact cfX5_bestCell_j90 C hn (k38 := (fun v3 v4 v5 v6 S0 => fX5_bestCell_L38 p1 p2 n v3 v4 v5 v6 S0)) (fun v3 v4 v5 v6 S0 h => ih v3 v4 v5 v6 S0 h) h
set_option maxRecDepth 100000 in
set_option maxHeartbeats 400000 in
theorem cfX5_bestCell {l : Launch} {G : GG} (a0 : Nat → Nat) {p1 : Int32} {p2 : Int32} {S0 : MT} {out : Int32 × MT} (h : fX5_bestCell p1 p2 S0 = some out) : Con l G 10 yX5_bestCell cX5_bestCell 8 (some .int) [.ref (a0 0), .int p1, .int p2] (wdM G a0 S0) (some (.int out.1)) (wdM G a0 out.2) := by
  refine Con_of (by decide +kernel) (Nat.le_of_ble_eq_true rfl) (fun E hl hG hn C => ?_)
  subst hl
  subst hG
  have C : Ctx E cX5_bestCell RX5 10 (some .int) := C
  show V E _ _ 0 [(0, .ref (a0 0)), (1, .int p1), (2, .int p2)] []
  unfold fX5_bestCell at h
  refine V_pb C hn [(.aload_n 0, 1), (.iload_n 1, 1)] (pc' := 2) (ls' := [(0, .ref (a0 0)), (1, .int p1), (2, .int p2)]) (st' := [.int p1, .ref (a0 0)]) (decB_ok (by decide +kernel)) rfl rfl ?_
  obtain ⟨q1, h2, h⟩ := bnd h
  refine V_callV0 C (As := [.int p1]) (rest := []) (by decide +kernel) ok_yX5_isMote mk_RX5_91 (cfX5_isMote (l := E.l) (G := E.G) a0 h2) (q0 := 0) rfl rfl rfl rfl rfl rfl (Nat.le_of_ble_eq_true rfl) (Nat.le_of_ble_eq_true rfl) (Nat.le_of_ble_eq_true rfl) ?_
  show V E _ (wdM E.G a0 S0) 5 [(0, .ref (a0 0)), (1, .int p1), (2, .int p2)] [.int q1]
  refine V_if_eq C (off := 10) (tgt := 15) (by decide +kernel) (by decide) h (fun _ h => ?_) (fun _ h => ?_)
  · refine V_sub (ls' := [(0, .ref (a0 0))]) rfl ?_
    exact cfX5_bestCell_j15 C hn h
  · refine V_pb C hn [(.iload_n 2, 1)] (pc' := 9) (ls' := [(0, .ref (a0 0)), (1, .int p1), (2, .int p2)]) (st' := [.int p2]) (decB_ok (by decide +kernel)) rfl rfl ?_
    obtain ⟨q5, h6, h⟩ := bnd h
    refine V_callSp C (As := [.int p2]) (rest := []) (by decide +kernel) ok_yX5_isTime mk_RX5_241 (cfX5_isTime (l := E.l) (G := E.G) h6) [] rfl rfl rfl rfl (Nat.le_of_ble_eq_true rfl) (Nat.le_of_ble_eq_true rfl) (Nat.le_of_ble_eq_true rfl) ?_
    show V E _ (wdM E.G a0 S0) 12 [(0, .ref (a0 0)), (1, .int p1), (2, .int p2)] [.int q5]
    refine V_if_ne C (off := 10) (tgt := 22) (by decide +kernel) (by decide) h (fun _ h => ?_) (fun _ h => ?_)
    · refine V_sub (ls' := [(0, .ref (a0 0))]) rfl ?_
      exact cfX5_bestCell_j15 C hn h
    · refine V_pb C hn [(.aload_n 0, 1)] (pc' := 23) (ls' := [(0, .ref (a0 0)), (1, .int p1), (2, .int p2)]) (st' := [.ref (a0 0)]) (decB_ok (by decide +kernel)) rfl rfl ?_
      refine V_get C (v := .ref (a0 3)) (by decide +kernel) 0 4 fk_RX5_16 rfl rfl ?_
      refine V_pb C hn [(.iload_n 1, 1)] (pc' := 27) (ls' := [(0, .ref (a0 0)), (1, .int p1), (2, .int p2)]) (st' := [.int p1, .ref (a0 3)]) (decB_ok (by decide +kernel)) rfl rfl ?_
      refine V_iald C (f := (m_cell S0)) (by decide +kernel) 3 rfl h (fun h => ?_)
      refine V_pb C hn [(.istore_n 3, 1), (.iconst 0, 1), (.istore 4, 2), (.iconst (-1), 1), (.istore 5, 2), (.iconst 0, 1), (.istore 6, 2)] (pc' := 38) (ls' := [(0, .ref (a0 0)), (1, .int p1), (2, .int p2), (3, .int ((m_cell S0) (ix p1))), (4, .int (0 : Int32)), (5, .int (cI (-1))), (6, .int (0 : Int32))]) (st' := []) (decB_ok (by decide +kernel)) rfl rfl ?_
      refine V_sub (ls' := [(0, .ref (a0 0)), (1, .int p1), (2, .int p2), (3, .int ((m_cell S0) (ix p1))), (4, .int (0 : Int32)), (5, .int (cI (-1))), (6, .int (0 : Int32))]) rfl ?_
      exact cfX5_bestCell_L38 C hn FU _ _ _ _ _ h
set_option maxRecDepth 100000 in
set_option maxHeartbeats 400000 in
theorem cfX5_many_j61 {E : VE} (C : Ctx E cX5_many RX5 11 (some .int)) (hn : E.nL = 5) {a0 : Nat → Nat} {p1 : Int32} {v2 : Int32} {v3 : Int32} {v4 : Int32} {S0 : MT} {out : Int32 × MT} {k24 : Int32 → Int32 → Int32 → MT → Option (Int32 × MT)} (hk24 : ∀ (v2 : Int32) (v3 : Int32) (v4 : Int32) (S0 : MT), k24 v2 v3 v4 S0 = some out → V E (QR E (some (.int out.1)) (wdM E.G a0 out.2)) (wdM E.G a0 S0) 24 [(0, .ref (a0 0)), (1, .int p1), (2, .int v2), (3, .int v3), (4, .int v4)] []) (h : fX5_many_j61 k24 p1 v2 v3 v4 S0 = some out) : V E (QR E (some (.int out.1)) (wdM E.G a0 out.2)) (wdM E.G a0 S0) 61 [(0, .ref (a0 0)), (1, .int p1), (2, .int v2), (3, .int v3), (4, .int v4)] [] := by
  unfold fX5_many_j61 at h
  refine V_pb C hn [(.iinc 4 1, 3)] (pc' := 64) (ls' := [(0, .ref (a0 0)), (1, .int p1), (2, .int v2), (3, .int v3), (4, .int (v4 + (1 : Int32)))]) (st' := []) (decB_ok (by decide +kernel)) rfl rfl ?_
  refine V_goto C (off := -40) (tgt := 24) (by decide +kernel) (by decide) ?_
  refine V_sub (ls' := [(0, .ref (a0 0)), (1, .int p1), (2, .int v2), (3, .int v3), (4, .int (v4 + (1 : Int32)))]) rfl ?_
  exact hk24 _ _ _ _ h
set_option maxRecDepth 100000 in
set_option maxHeartbeats 400000 in
theorem cfX5_many_L24 {E : VE} (C : Ctx E cX5_many RX5 11 (some .int)) (hn : E.nL = 5) {a0 : Nat → Nat} {p1 : Int32} {out : Int32 × MT} : ∀ (n : Nat) (v2 : Int32) (v3 : Int32) (v4 : Int32) (S0 : MT), fX5_many_L24 p1 n v2 v3 v4 S0 = some out → V E (QR E (some (.int out.1)) (wdM E.G a0 out.2)) (wdM E.G a0 S0) 24 [(0, .ref (a0 0)), (1, .int p1), (2, .int v2), (3, .int v3), (4, .int v4)] [] := by
  intro n
  induction n with
  | zero =>
    intro v2 v3 v4 S0 h
    cases h
  | succ n ih =>
    intro v2 v3 v4 S0 h
    unfold fX5_many_L24 at h
    refine V_pb C hn [(.iload 4, 2), (.sipush 155, 3)] (pc' := 29) (ls' := [(0, .ref (a0 0)), (1, .int p1), (2, .int v2), (3, .int v3), (4, .int v4)]) (st' := [.int (155 : Int32), .int v4]) (decB_ok (by decide +kernel)) rfl rfl ?_
    refine V_ic_ge C (off := 38) (tgt := 67) (by decide +kernel) (by decide) h (fun _ h => ?_) (fun _ h => ?_)
    · refine V_pb C hn [(.aload_n 0, 1), (.iload_n 2, 1)] (pc' := 69) (ls' := [(0, .ref (a0 0)), (1, .int p1), (2, .int v2), (3, .int v3), (4, .int v4)]) (st' := [.int v2, .ref (a0 0)]) (decB_ok (by decide +kernel)) rfl rfl ?_
      obtain ⟨q7, h8, h⟩ := bnd h
      refine V_callV0 C (As := [.int v2]) (rest := []) (by decide +kernel) ok_yX5_sets mk_RX5_265 (cfX5_sets (l := E.l) (G := E.G) a0 h8) (q0 := 0) rfl rfl rfl rfl rfl rfl (Nat.le_of_ble_eq_true rfl) (Nat.le_of_ble_eq_true rfl) (Nat.le_of_ble_eq_true rfl) ?_
      show V E _ (wdM E.G a0 q7) 72 [(0, .ref (a0 0)), (1, .int p1), (2, .int v2), (3, .int v3), (4, .int v4)] []
      refine V_pb C hn [(.iload_n 3, 1)] (pc' := 73) (ls' := [(0, .ref (a0 0)), (1, .int p1), (2, .int v2), (3, .int v3), (4, .int v4)]) (st' := [.int v3]) (decB_ok (by decide +kernel)) rfl rfl ?_
      have h := Option.some.inj h
      subst h
      exact V_iret C (by decide +kernel) rfl
    · refine V_pb C hn [(.iload 4, 2), (.i2l, 1)] (pc' := 35) (ls' := [(0, .ref (a0 0)), (1, .int p1), (2, .int v2), (3, .int v3), (4, .int v4)]) (st' := [.long v4.toInt64]) (decB_ok (by decide +kernel)) rfl rfl ?_
      obtain ⟨q9, h10, h⟩ := bnd h
      refine V_callSp C (As := [.long v4.toInt64]) (rest := []) (by decide +kernel) ok_yX5_isSetting mk_RX5_258 (cfX5_isSetting (l := E.l) (G := E.G) h10) [] rfl rfl rfl rfl (Nat.le_of_ble_eq_true rfl) (Nat.le_of_ble_eq_true rfl) (Nat.le_of_ble_eq_true rfl) ?_
      show V E _ (wdM E.G a0 S0) 38 [(0, .ref (a0 0)), (1, .int p1), (2, .int v2), (3, .int v3), (4, .int v4)] [.int q9]
      refine V_if_ne C (off := 6) (tgt := 44) (by decide +kernel) (by decide) h (fun _ h => ?_) (fun _ h => ?_)
      · refine V_goto C (off := 20) (tgt := 61) (by decide +kernel) (by decide) ?_
        refine V_sub (ls' := [(0, .ref (a0 0)), (1, .int p1), (2, .int v2), (3, .int v3), (4, .int v4)]) rfl ?_
        exact cfX5_many_j61 C hn (k24 := (fun v2 v3 v4 S0 => fX5_many_L24 p1 n v2 v3 v4 S0)) (fun v2 v3 v4 S0 h => ih v2 v3 v4 S0 h) h
      · refine V_pb C hn [(.aload_n 0, 1), (.iload 4, 2)] (pc' := 47) (ls' := [(0, .ref (a0 0)), (1, .int p1), (2, .int v2), (3, .int v3), (4, .int v4)]) (st' := [.int v4, .ref (a0 0)]) (decB_ok (by decide +kernel)) rfl rfl ?_
        obtain ⟨q11, h12, h⟩ := bnd h
        refine V_callV0 C (As := [.int v4]) (rest := []) (by decide +kernel) ok_yX5_sets mk_RX5_265 (cfX5_sets (l := E.l) (G := E.G) a0 h12) (q0 := 0) rfl rfl rfl rfl rfl rfl (Nat.le_of_ble_eq_true rfl) (Nat.le_of_ble_eq_true rfl) (Nat.le_of_ble_eq_true rfl) ?_
        show V E _ (wdM E.G a0 q11) 50 [(0, .ref (a0 0)), (1, .int p1), (2, .int v2), (3, .int v3), (4, .int v4)] []
        refine V_pb C hn [(.aload_n 0, 1), (.iload_n 1, 1)] (pc' := 52) (ls' := [(0, .ref (a0 0)), (1, .int p1), (2, .int v2), (3, .int v3), (4, .int v4)]) (st' := [.int p1, .ref (a0 0)]) (decB_ok (by decide +kernel)) rfl rfl ?_
        obtain ⟨q13, h14, h⟩ := bnd h
        refine V_callV0 C (As := [.int p1]) (rest := []) (by decide +kernel) ok_yX5_carriesBehind mk_RX5_268 (cfX5_carriesBehind (l := E.l) (G := E.G) a0 h14) (q0 := 0) rfl rfl rfl rfl rfl rfl (Nat.le_of_ble_eq_true rfl) (Nat.le_of_ble_eq_true rfl) (Nat.le_of_ble_eq_true rfl) ?_
        show V E _ (wdM E.G a0 q13.2) 55 [(0, .ref (a0 0)), (1, .int p1), (2, .int v2), (3, .int v3), (4, .int v4)] [.int q13.1]
        refine V_if_eq C (off := 6) (tgt := 61) (by decide +kernel) (by decide) h (fun _ h => ?_) (fun _ h => ?_)
        · refine V_sub (ls' := [(0, .ref (a0 0)), (1, .int p1), (2, .int v2), (3, .int v3), (4, .int v4)]) rfl ?_
          exact cfX5_many_j61 C hn (k24 := (fun v2 v3 v4 S0 => fX5_many_L24 p1 n v2 v3 v4 S0)) (fun v2 v3 v4 S0 h => ih v2 v3 v4 S0 h) h
        · refine V_pb C hn [(.iinc 3 1, 3)] (pc' := 61) (ls' := [(0, .ref (a0 0)), (1, .int p1), (2, .int v2), (3, .int (v3 + (1 : Int32))), (4, .int v4)]) (st' := []) (decB_ok (by decide +kernel)) rfl rfl ?_
          refine V_sub (ls' := [(0, .ref (a0 0)), (1, .int p1), (2, .int v2), (3, .int (v3 + (1 : Int32))), (4, .int v4)]) rfl ?_
          exact cfX5_many_j61 C hn (k24 := (fun v2 v3 v4 S0 => fX5_many_L24 p1 n v2 v3 v4 S0)) (fun v2 v3 v4 S0 h => ih v2 v3 v4 S0 h) h
set_option maxRecDepth 100000 in
set_option maxHeartbeats 400000 in
theorem cfX5_many {l : Launch} {G : GG} (a0 : Nat → Nat) {p1 : Int32} {S0 : MT} {out : Int32 × MT} (h : fX5_many p1 S0 = some out) : Con l G 11 yX5_many cX5_many 5 (some .int) [.ref (a0 0), .int p1] (wdM G a0 S0) (some (.int out.1)) (wdM G a0 out.2) := by
  refine Con_of (by decide +kernel) (Nat.le_of_ble_eq_true rfl) (fun E hl hG hn C => ?_)
  subst hl
  subst hG
  have C : Ctx E cX5_many RX5 11 (some .int) := C
  show V E _ _ 0 [(0, .ref (a0 0)), (1, .int p1)] []
  unfold fX5_many at h
  refine V_pb C hn [(.iload_n 1, 1)] (pc' := 1) (ls' := [(0, .ref (a0 0)), (1, .int p1)]) (st' := [.int p1]) (decB_ok (by decide +kernel)) rfl rfl ?_
  obtain ⟨q1, h2, h⟩ := bnd h
  refine V_callSp C (As := [.int p1]) (rest := []) (by decide +kernel) ok_yX5_isTime mk_RX5_241 (cfX5_isTime (l := E.l) (G := E.G) h2) [] rfl rfl rfl rfl (Nat.le_of_ble_eq_true rfl) (Nat.le_of_ble_eq_true rfl) (Nat.le_of_ble_eq_true rfl) ?_
  show V E _ (wdM E.G a0 S0) 4 [(0, .ref (a0 0)), (1, .int p1)] [.int q1]
  refine V_if_ne C (off := 10) (tgt := 14) (by decide +kernel) (by decide) h (fun _ h => ?_) (fun _ h => ?_)
  · refine V_pb C hn [(.aload_n 0, 1), (.bipush (-2), 2)] (pc' := 10) (ls' := [(0, .ref (a0 0)), (1, .int p1)]) (st' := [.int (cI (-2)), .ref (a0 0)]) (decB_ok (by decide +kernel)) rfl rfl ?_
    obtain ⟨q3, h4, h⟩ := bnd h
    refine V_callV0 C (As := [.int (cI (-2))]) (rest := []) (by decide +kernel) ok_yX5_no mk_RX5_77 (cfX5_no (l := E.l) (G := E.G) a0 h4) (q0 := 0) rfl rfl rfl rfl rfl rfl (Nat.le_of_ble_eq_true rfl) (Nat.le_of_ble_eq_true rfl) (Nat.le_of_ble_eq_true rfl) ?_
    show V E _ (wdM E.G a0 q3.2) 13 [(0, .ref (a0 0)), (1, .int p1)] [.int q3.1]
    have h := Option.some.inj h
    subst h
    exact V_iret C (by decide +kernel) rfl
  · refine V_pb C hn [(.aload_n 0, 1)] (pc' := 15) (ls' := [(0, .ref (a0 0)), (1, .int p1)]) (st' := [.ref (a0 0)]) (decB_ok (by decide +kernel)) rfl rfl ?_
    obtain ⟨q5, h6, h⟩ := bnd h
    refine V_callV0 C (As := []) (rest := []) (by decide +kernel) ok_yX5_settingNow mk_RX5_255 (cfX5_settingNow (l := E.l) (G := E.G) a0 h6) (q0 := 0) rfl rfl rfl rfl rfl rfl (Nat.le_of_ble_eq_true rfl) (Nat.le_of_ble_eq_true rfl) (Nat.le_of_ble_eq_true rfl) ?_
    show V E _ (wdM E.G a0 S0) 18 [(0, .ref (a0 0)), (1, .int p1)] [.int q5]
    refine V_pb C hn [(.istore_n 2, 1), (.iconst 0, 1), (.istore_n 3, 1), (.iconst 0, 1), (.istore 4, 2)] (pc' := 24) (ls' := [(0, .ref (a0 0)), (1, .int p1), (2, .int q5), (3, .int (0 : Int32)), (4, .int (0 : Int32))]) (st' := []) (decB_ok (by decide +kernel)) rfl rfl ?_
    refine V_sub (ls' := [(0, .ref (a0 0)), (1, .int p1), (2, .int q5), (3, .int (0 : Int32)), (4, .int (0 : Int32))]) rfl ?_
    exact cfX5_many_L24 C hn FU _ _ _ _ h
set_option maxRecDepth 100000 in
set_option maxHeartbeats 400000 in
theorem cfX5_runs_j34 {E : VE} (C : Ctx E cX5_runs RX5 11 (some .int)) (hn : E.nL = 4) {a0 : Nat → Nat} {p1 : Int32} {v2 : Int32} {v3 : Int32} {S0 : MT} {out : Int32 × MT} {k18 : Int32 → Int32 → MT → Option (Int32 × MT)} (hk18 : ∀ (v2 : Int32) (v3 : Int32) (S0 : MT), k18 v2 v3 S0 = some out → V E (QR E (some (.int out.1)) (wdM E.G a0 out.2)) (wdM E.G a0 S0) 18 [(0, .ref (a0 0)), (1, .int p1), (2, .int v2), (3, .int v3)] []) (h : fX5_runs_j34 k18 p1 v2 v3 S0 = some out) : V E (QR E (some (.int out.1)) (wdM E.G a0 out.2)) (wdM E.G a0 S0) 34 [(0, .ref (a0 0)), (1, .int p1), (2, .int v2), (3, .int v3)] [] := by
  unfold fX5_runs_j34 at h
  refine V_pb C hn [(.iinc 3 1, 3)] (pc' := 37) (ls' := [(0, .ref (a0 0)), (1, .int p1), (2, .int v2), (3, .int (v3 + (1 : Int32)))]) (st' := []) (decB_ok (by decide +kernel)) rfl rfl ?_
  refine V_goto C (off := -19) (tgt := 18) (by decide +kernel) (by decide) ?_
  refine V_sub (ls' := [(0, .ref (a0 0)), (1, .int p1), (2, .int v2), (3, .int (v3 + (1 : Int32)))]) rfl ?_
  exact hk18 _ _ _ h
set_option maxRecDepth 100000 in
set_option maxHeartbeats 400000 in
theorem cfX5_runs_L18 {E : VE} (C : Ctx E cX5_runs RX5 11 (some .int)) (hn : E.nL = 4) {a0 : Nat → Nat} {p1 : Int32} {out : Int32 × MT} : ∀ (n : Nat) (v2 : Int32) (v3 : Int32) (S0 : MT), fX5_runs_L18 p1 n v2 v3 S0 = some out → V E (QR E (some (.int out.1)) (wdM E.G a0 out.2)) (wdM E.G a0 S0) 18 [(0, .ref (a0 0)), (1, .int p1), (2, .int v2), (3, .int v3)] [] := by
  intro n
  induction n with
  | zero =>
    intro v2 v3 S0 h
    cases h
  | succ n ih =>
    intro v2 v3 S0 h
    unfold fX5_runs_L18 at h
    refine V_pb C hn [(.iload_n 3, 1), (.iload_n 1, 1)] (pc' := 20) (ls' := [(0, .ref (a0 0)), (1, .int p1), (2, .int v2), (3, .int v3)]) (st' := [.int p1, .int v3]) (decB_ok (by decide +kernel)) rfl rfl ?_
    refine V_ic_gt C (off := 20) (tgt := 40) (by decide +kernel) (by decide) h (fun _ h => ?_) (fun _ h => ?_)
    · refine V_pb C hn [(.iload_n 2, 1)] (pc' := 41) (ls' := [(0, .ref (a0 0)), (1, .int p1), (2, .int v2), (3, .int v3)]) (st' := [.int v2]) (decB_ok (by decide +kernel)) rfl rfl ?_
      have h := Option.some.inj h
      subst h
      exact V_iret C (by decide +kernel) rfl
    · refine V_pb C hn [(.aload_n 0, 1), (.iload_n 3, 1)] (pc' := 25) (ls' := [(0, .ref (a0 0)), (1, .int p1), (2, .int v2), (3, .int v3)]) (st' := [.int v3, .ref (a0 0)]) (decB_ok (by decide +kernel)) rfl rfl ?_
      obtain ⟨q5, h6, h⟩ := bnd h
      refine V_callV0 C (As := [.int v3]) (rest := []) (by decide +kernel) ok_yX5_carriesBehind mk_RX5_268 (cfX5_carriesBehind (l := E.l) (G := E.G) a0 h6) (q0 := 0) rfl rfl rfl rfl rfl rfl (Nat.le_of_ble_eq_true rfl) (Nat.le_of_ble_eq_true rfl) (Nat.le_of_ble_eq_true rfl) ?_
      show V E _ (wdM E.G a0 q5.2) 28 [(0, .ref (a0 0)), (1, .int p1), (2, .int v2), (3, .int v3)] [.int q5.1]
      refine V_if_eq C (off := 6) (tgt := 34) (by decide +kernel) (by decide) h (fun _ h => ?_) (fun _ h => ?_)
      · refine V_sub (ls' := [(0, .ref (a0 0)), (1, .int p1), (2, .int v2), (3, .int v3)]) rfl ?_
        exact cfX5_runs_j34 C hn (k18 := (fun v2 v3 S0 => fX5_runs_L18 p1 n v2 v3 S0)) (fun v2 v3 S0 h => ih v2 v3 S0 h) h
      · refine V_pb C hn [(.iinc 2 1, 3)] (pc' := 34) (ls' := [(0, .ref (a0 0)), (1, .int p1), (2, .int (v2 + (1 : Int32))), (3, .int v3)]) (st' := []) (decB_ok (by decide +kernel)) rfl rfl ?_
        refine V_sub (ls' := [(0, .ref (a0 0)), (1, .int p1), (2, .int (v2 + (1 : Int32))), (3, .int v3)]) rfl ?_
        exact cfX5_runs_j34 C hn (k18 := (fun v2 v3 S0 => fX5_runs_L18 p1 n v2 v3 S0)) (fun v2 v3 S0 h => ih v2 v3 S0 h) h
set_option maxRecDepth 100000 in
set_option maxHeartbeats 400000 in
theorem cfX5_runs {l : Launch} {G : GG} (a0 : Nat → Nat) {p1 : Int32} {S0 : MT} {out : Int32 × MT} (h : fX5_runs p1 S0 = some out) : Con l G 11 yX5_runs cX5_runs 4 (some .int) [.ref (a0 0), .int p1] (wdM G a0 S0) (some (.int out.1)) (wdM G a0 out.2) := by
  refine Con_of (by decide +kernel) (Nat.le_of_ble_eq_true rfl) (fun E hl hG hn C => ?_)
  subst hl
  subst hG
  have C : Ctx E cX5_runs RX5 11 (some .int) := C
  show V E _ _ 0 [(0, .ref (a0 0)), (1, .int p1)] []
  unfold fX5_runs at h
  refine V_pb C hn [(.iload_n 1, 1)] (pc' := 1) (ls' := [(0, .ref (a0 0)), (1, .int p1)]) (st' := [.int p1]) (decB_ok (by decide +kernel)) rfl rfl ?_
  obtain ⟨q1, h2, h⟩ := bnd h
  refine V_callSp C (As := [.int p1]) (rest := []) (by decide +kernel) ok_yX5_isTime mk_RX5_241 (cfX5_isTime (l := E.l) (G := E.G) h2) [] rfl rfl rfl rfl (Nat.le_of_ble_eq_true rfl) (Nat.le_of_ble_eq_true rfl) (Nat.le_of_ble_eq_true rfl) ?_
  show V E _ (wdM E.G a0 S0) 4 [(0, .ref (a0 0)), (1, .int p1)] [.int q1]
  refine V_if_ne C (off := 10) (tgt := 14) (by decide +kernel) (by decide) h (fun _ h => ?_) (fun _ h => ?_)
  · refine V_pb C hn [(.aload_n 0, 1), (.bipush (-2), 2)] (pc' := 10) (ls' := [(0, .ref (a0 0)), (1, .int p1)]) (st' := [.int (cI (-2)), .ref (a0 0)]) (decB_ok (by decide +kernel)) rfl rfl ?_
    obtain ⟨q3, h4, h⟩ := bnd h
    refine V_callV0 C (As := [.int (cI (-2))]) (rest := []) (by decide +kernel) ok_yX5_no mk_RX5_77 (cfX5_no (l := E.l) (G := E.G) a0 h4) (q0 := 0) rfl rfl rfl rfl rfl rfl (Nat.le_of_ble_eq_true rfl) (Nat.le_of_ble_eq_true rfl) (Nat.le_of_ble_eq_true rfl) ?_
    show V E _ (wdM E.G a0 q3.2) 13 [(0, .ref (a0 0)), (1, .int p1)] [.int q3.1]
    have h := Option.some.inj h
    subst h
    exact V_iret C (by decide +kernel) rfl
  · refine V_pb C hn [(.iconst 0, 1), (.istore_n 2, 1), (.iconst 0, 1), (.istore_n 3, 1)] (pc' := 18) (ls' := [(0, .ref (a0 0)), (1, .int p1), (2, .int (0 : Int32)), (3, .int (0 : Int32))]) (st' := []) (decB_ok (by decide +kernel)) rfl rfl ?_
    refine V_sub (ls' := [(0, .ref (a0 0)), (1, .int p1), (2, .int (0 : Int32)), (3, .int (0 : Int32))]) rfl ?_
    exact cfX5_runs_L18 C hn FU _ _ _ h
set_option maxRecDepth 100000 in
set_option maxHeartbeats 400000 in
theorem cfX5_together_j82 {E : VE} (C : Ctx E cX5_together RX5 8 (some .int)) (hn : E.nL = 5) {a0 : Nat → Nat} {p1 : Int32} {p2 : Int32} {v3 : Int32} {v4 : Int32} {S0 : MT} {out : Int32 × MT} {k25 : Int32 → Int32 → MT → Option (Int32 × MT)} (hk25 : ∀ (v3 : Int32) (v4 : Int32) (S0 : MT), k25 v3 v4 S0 = some out → V E (QR E (some (.int out.1)) (wdM E.G a0 out.2)) (wdM E.G a0 S0) 25 [(0, .ref (a0 0)), (1, .int p1), (2, .int p2), (3, .int v3), (4, .int v4)] []) (h : fX5_together_j82 k25 p1 p2 v3 v4 S0 = some out) : V E (QR E (some (.int out.1)) (wdM E.G a0 out.2)) (wdM E.G a0 S0) 82 [(0, .ref (a0 0)), (1, .int p1), (2, .int p2), (3, .int v3), (4, .int v4)] [] := by
  unfold fX5_together_j82 at h
  refine V_pb C hn [(.iinc 4 1, 3)] (pc' := 85) (ls' := [(0, .ref (a0 0)), (1, .int p1), (2, .int p2), (3, .int v3), (4, .int (v4 + (1 : Int32)))]) (st' := []) (decB_ok (by decide +kernel)) rfl rfl ?_
  refine V_goto C (off := -60) (tgt := 25) (by decide +kernel) (by decide) ?_
  refine V_sub (ls' := [(0, .ref (a0 0)), (1, .int p1), (2, .int p2), (3, .int v3), (4, .int (v4 + (1 : Int32)))]) rfl ?_
  exact hk25 _ _ _ h
set_option maxRecDepth 100000 in
set_option maxHeartbeats 400000 in
theorem cfX5_together_j41 {E : VE} (C : Ctx E cX5_together RX5 8 (some .int)) (hn : E.nL = 5) {a0 : Nat → Nat} {p1 : Int32} {p2 : Int32} {v3 : Int32} {v4 : Int32} {S0 : MT} {out : Int32 × MT} {k25 : Int32 → Int32 → MT → Option (Int32 × MT)} (hk25 : ∀ (v3 : Int32) (v4 : Int32) (S0 : MT), k25 v3 v4 S0 = some out → V E (QR E (some (.int out.1)) (wdM E.G a0 out.2)) (wdM E.G a0 S0) 25 [(0, .ref (a0 0)), (1, .int p1), (2, .int p2), (3, .int v3), (4, .int v4)] []) (h : fX5_together_j41 k25 p1 p2 v3 v4 S0 = some out) : V E (QR E (some (.int out.1)) (wdM E.G a0 out.2)) (wdM E.G a0 S0) 41 [(0, .ref (a0 0)), (1, .int p1), (2, .int p2), (3, .int v3), (4, .int v4)] [] := by
  unfold fX5_together_j41 at h
  refine V_pb C hn [(.aload_n 0, 1), (.aload_n 0, 1)] (pc' := 43) (ls' := [(0, .ref (a0 0)), (1, .int p1), (2, .int p2), (3, .int v3), (4, .int v4)]) (st' := [.ref (a0 0), .ref (a0 0)]) (decB_ok (by decide +kernel)) rfl rfl ?_
  refine V_get C (v := .ref (a0 3)) (by decide +kernel) 0 4 fk_RX5_16 rfl rfl ?_
  refine V_pb C hn [(.iload_n 1, 1)] (pc' := 47) (ls' := [(0, .ref (a0 0)), (1, .int p1), (2, .int p2), (3, .int v3), (4, .int v4)]) (st' := [.int p1, .ref (a0 3), .ref (a0 0)]) (decB_ok (by decide +kernel)) rfl rfl ?_
  refine V_iald C (f := (m_cell S0)) (by decide +kernel) 3 rfl h (fun h => ?_)
  refine V_pb C hn [(.aload_n 0, 1)] (pc' := 49) (ls' := [(0, .ref (a0 0)), (1, .int p1), (2, .int p2), (3, .int v3), (4, .int v4)]) (st' := [.ref (a0 0), .int ((m_cell S0) (ix p1)), .ref (a0 0)]) (decB_ok (by decide +kernel)) rfl rfl ?_
  refine V_get C (v := .ref (a0 4)) (by decide +kernel) 0 6 fk_RX5_19 rfl rfl ?_
  refine V_pb C hn [(.iconst 2, 1)] (pc' := 53) (ls' := [(0, .ref (a0 0)), (1, .int p1), (2, .int p2), (3, .int v3), (4, .int v4)]) (st' := [.int (2 : Int32), .ref (a0 4), .int ((m_cell S0) (ix p1)), .ref (a0 0)]) (decB_ok (by decide +kernel)) rfl rfl ?_
  refine V_iald C (f := (m_ways S0)) (by decide +kernel) 4 rfl h (fun h => ?_)
  obtain ⟨q9, h10, h⟩ := bnd h
  refine V_callV0 C (As := [.int ((m_cell S0) (ix p1)), .int ((m_ways S0) (ix (2 : Int32)))]) (rest := []) (by decide +kernel) ok_yX5_isLit mk_RX5_201 (cfX5_isLit (l := E.l) (G := E.G) a0 h10) (q0 := 0) rfl rfl rfl rfl rfl rfl (Nat.le_of_ble_eq_true rfl) (Nat.le_of_ble_eq_true rfl) (Nat.le_of_ble_eq_true rfl) ?_
  show V E _ (wdM E.G a0 S0) 57 [(0, .ref (a0 0)), (1, .int p1), (2, .int p2), (3, .int v3), (4, .int v4)] [.int q9]
  refine V_if_eq C (off := 25) (tgt := 82) (by decide +kernel) (by decide) h (fun _ h => ?_) (fun _ h => ?_)
  · refine V_sub (ls' := [(0, .ref (a0 0)), (1, .int p1), (2, .int p2), (3, .int v3), (4, .int v4)]) rfl ?_
    exact cfX5_together_j82 C hn (k25 := k25) (hk25) h
  · refine V_pb C hn [(.aload_n 0, 1), (.aload_n 0, 1)] (pc' := 62) (ls' := [(0, .ref (a0 0)), (1, .int p1), (2, .int p2), (3, .int v3), (4, .int v4)]) (st' := [.ref (a0 0), .ref (a0 0)]) (decB_ok (by decide +kernel)) rfl rfl ?_
    refine V_get C (v := .ref (a0 3)) (by decide +kernel) 0 4 fk_RX5_16 rfl rfl ?_
    refine V_pb C hn [(.iload_n 2, 1)] (pc' := 66) (ls' := [(0, .ref (a0 0)), (1, .int p1), (2, .int p2), (3, .int v3), (4, .int v4)]) (st' := [.int p2, .ref (a0 3), .ref (a0 0)]) (decB_ok (by decide +kernel)) rfl rfl ?_
    refine V_iald C (f := (m_cell S0)) (by decide +kernel) 3 rfl h (fun h => ?_)
    refine V_pb C hn [(.aload_n 0, 1)] (pc' := 68) (ls' := [(0, .ref (a0 0)), (1, .int p1), (2, .int p2), (3, .int v3), (4, .int v4)]) (st' := [.ref (a0 0), .int ((m_cell S0) (ix p2)), .ref (a0 0)]) (decB_ok (by decide +kernel)) rfl rfl ?_
    refine V_get C (v := .ref (a0 4)) (by decide +kernel) 0 6 fk_RX5_19 rfl rfl ?_
    refine V_pb C hn [(.iconst 2, 1)] (pc' := 72) (ls' := [(0, .ref (a0 0)), (1, .int p1), (2, .int p2), (3, .int v3), (4, .int v4)]) (st' := [.int (2 : Int32), .ref (a0 4), .int ((m_cell S0) (ix p2)), .ref (a0 0)]) (decB_ok (by decide +kernel)) rfl rfl ?_
    refine V_iald C (f := (m_ways S0)) (by decide +kernel) 4 rfl h (fun h => ?_)
    obtain ⟨q11, h12, h⟩ := bnd h
    refine V_callV0 C (As := [.int ((m_cell S0) (ix p2)), .int ((m_ways S0) (ix (2 : Int32)))]) (rest := []) (by decide +kernel) ok_yX5_isLit mk_RX5_201 (cfX5_isLit (l := E.l) (G := E.G) a0 h12) (q0 := 0) rfl rfl rfl rfl rfl rfl (Nat.le_of_ble_eq_true rfl) (Nat.le_of_ble_eq_true rfl) (Nat.le_of_ble_eq_true rfl) ?_
    show V E _ (wdM E.G a0 S0) 76 [(0, .ref (a0 0)), (1, .int p1), (2, .int p2), (3, .int v3), (4, .int v4)] [.int q11]
    refine V_if_eq C (off := 6) (tgt := 82) (by decide +kernel) (by decide) h (fun _ h => ?_) (fun _ h => ?_)
    · refine V_sub (ls' := [(0, .ref (a0 0)), (1, .int p1), (2, .int p2), (3, .int v3), (4, .int v4)]) rfl ?_
      exact cfX5_together_j82 C hn (k25 := k25) (hk25) h
    · refine V_pb C hn [(.iinc 3 1, 3)] (pc' := 82) (ls' := [(0, .ref (a0 0)), (1, .int p1), (2, .int p2), (3, .int (v3 + (1 : Int32))), (4, .int v4)]) (st' := []) (decB_ok (by decide +kernel)) rfl rfl ?_
      refine V_sub (ls' := [(0, .ref (a0 0)), (1, .int p1), (2, .int p2), (3, .int (v3 + (1 : Int32))), (4, .int v4)]) rfl ?_
      exact cfX5_together_j82 C hn (k25 := k25) (hk25) h
set_option maxRecDepth 100000 in
set_option maxHeartbeats 400000 in
theorem cfX5_together_L25 {E : VE} (C : Ctx E cX5_together RX5 8 (some .int)) (hn : E.nL = 5) {a0 : Nat → Nat} {p1 : Int32} {p2 : Int32} {out : Int32 × MT} : ∀ (n : Nat) (v3 : Int32) (v4 : Int32) (S0 : MT), fX5_together_L25 p1 p2 n v3 v4 S0 = some out → V E (QR E (some (.int out.1)) (wdM E.G a0 out.2)) (wdM E.G a0 S0) 25 [(0, .ref (a0 0)), (1, .int p1), (2, .int p2), (3, .int v3), (4, .int v4)] [] := by
  intro n
  induction n with
  | zero =>
    intro v3 v4 S0 h
    cases h
  | succ n ih =>
    intro v3 v4 S0 h
    unfold fX5_together_L25 at h
    refine V_pb C hn [(.iload 4, 2), (.bipush 24, 2)] (pc' := 29) (ls' := [(0, .ref (a0 0)), (1, .int p1), (2, .int p2), (3, .int v3), (4, .int v4)]) (st' := [.int (24 : Int32), .int v4]) (decB_ok (by decide +kernel)) rfl rfl ?_
    refine V_ic_gt C (off := 59) (tgt := 88) (by decide +kernel) (by decide) h (fun _ h => ?_) (fun _ h => ?_)
    · refine V_pb C hn [(.aload_n 0, 1)] (pc' := 89) (ls' := [(0, .ref (a0 0)), (1, .int p1), (2, .int p2), (3, .int v3), (4, .int v4)]) (st' := [.ref (a0 0)]) (decB_ok (by decide +kernel)) rfl rfl ?_
      obtain ⟨q7, h8, h⟩ := bnd h
      refine V_callV0 C (As := []) (rest := []) (by decide +kernel) ok_yX5_ends mk_RX5_232 (cfX5_ends (l := E.l) (G := E.G) a0 h8) (q0 := 0) rfl rfl rfl rfl rfl rfl (Nat.le_of_ble_eq_true rfl) (Nat.le_of_ble_eq_true rfl) (Nat.le_of_ble_eq_true rfl) ?_
      show V E _ (wdM E.G a0 q7) 92 [(0, .ref (a0 0)), (1, .int p1), (2, .int p2), (3, .int v3), (4, .int v4)] []
      refine V_pb C hn [(.iload_n 3, 1)] (pc' := 93) (ls' := [(0, .ref (a0 0)), (1, .int p1), (2, .int p2), (3, .int v3), (4, .int v4)]) (st' := [.int v3]) (decB_ok (by decide +kernel)) rfl rfl ?_
      have h := Option.some.inj h
      subst h
      exact V_iret C (by decide +kernel) rfl
    · refine V_pb C hn [(.iload 4, 2)] (pc' := 34) (ls' := [(0, .ref (a0 0)), (1, .int p1), (2, .int p2), (3, .int v3), (4, .int v4)]) (st' := [.int v4]) (decB_ok (by decide +kernel)) rfl rfl ?_
      refine V_if_le C (off := 7) (tgt := 41) (by decide +kernel) (by decide) h (fun _ h => ?_) (fun _ h => ?_)
      · refine V_sub (ls' := [(0, .ref (a0 0)), (1, .int p1), (2, .int p2), (3, .int v3), (4, .int v4)]) rfl ?_
        exact cfX5_together_j41 C hn (k25 := (fun v3 v4 S0 => fX5_together_L25 p1 p2 n v3 v4 S0)) (fun v3 v4 S0 h => ih v3 v4 S0 h) h
      · refine V_pb C hn [(.aload_n 0, 1)] (pc' := 38) (ls' := [(0, .ref (a0 0)), (1, .int p1), (2, .int p2), (3, .int v3), (4, .int v4)]) (st' := [.ref (a0 0)]) (decB_ok (by decide +kernel)) rfl rfl ?_
        obtain ⟨q13, h14, h⟩ := bnd h
        refine V_callV0 C (As := []) (rest := []) (by decide +kernel) ok_yX5_step mk_RX5_225 (cfX5_step (l := E.l) (G := E.G) a0 h14) (q0 := 0) rfl rfl rfl rfl rfl rfl (Nat.le_of_ble_eq_true rfl) (Nat.le_of_ble_eq_true rfl) (Nat.le_of_ble_eq_true rfl) ?_
        show V E _ (wdM E.G a0 q13) 41 [(0, .ref (a0 0)), (1, .int p1), (2, .int p2), (3, .int v3), (4, .int v4)] []
        refine V_sub (ls' := [(0, .ref (a0 0)), (1, .int p1), (2, .int p2), (3, .int v3), (4, .int v4)]) rfl ?_
        exact cfX5_together_j41 C hn (k25 := (fun v3 v4 S0 => fX5_together_L25 p1 p2 n v3 v4 S0)) (fun v3 v4 S0 h => ih v3 v4 S0 h) h
set_option maxRecDepth 100000 in
set_option maxHeartbeats 400000 in
theorem cfX5_together {l : Launch} {G : GG} (a0 : Nat → Nat) {p1 : Int32} {p2 : Int32} {S0 : MT} {out : Int32 × MT} (h : fX5_together p1 p2 S0 = some out) : Con l G 8 yX5_together cX5_together 5 (some .int) [.ref (a0 0), .int p1, .int p2] (wdM G a0 S0) (some (.int out.1)) (wdM G a0 out.2) := by
  refine Con_of (by decide +kernel) (Nat.le_of_ble_eq_true rfl) (fun E hl hG hn C => ?_)
  subst hl
  subst hG
  have C : Ctx E cX5_together RX5 8 (some .int) := C
  show V E _ _ 0 [(0, .ref (a0 0)), (1, .int p1), (2, .int p2)] []
  unfold fX5_together at h
  refine V_pb C hn [(.aload_n 0, 1), (.iload_n 1, 1), (.iload_n 2, 1)] (pc' := 3) (ls' := [(0, .ref (a0 0)), (1, .int p1), (2, .int p2)]) (st' := [.int p2, .int p1, .ref (a0 0)]) (decB_ok (by decide +kernel)) rfl rfl ?_
  obtain ⟨q1, h2, h⟩ := bnd h
  refine V_callV0 C (As := [.int p1, .int p2]) (rest := []) (by decide +kernel) ok_yX5_areTwo mk_RX5_328 (cfX5_areTwo (l := E.l) (G := E.G) a0 h2) (q0 := 0) rfl rfl rfl rfl rfl rfl (Nat.le_of_ble_eq_true rfl) (Nat.le_of_ble_eq_true rfl) (Nat.le_of_ble_eq_true rfl) ?_
  show V E _ (wdM E.G a0 S0) 6 [(0, .ref (a0 0)), (1, .int p1), (2, .int p2)] [.int q1]
  refine V_if_ne C (off := 10) (tgt := 16) (by decide +kernel) (by decide) h (fun _ h => ?_) (fun _ h => ?_)
  · refine V_pb C hn [(.aload_n 0, 1), (.bipush (-2), 2)] (pc' := 12) (ls' := [(0, .ref (a0 0)), (1, .int p1), (2, .int p2)]) (st' := [.int (cI (-2)), .ref (a0 0)]) (decB_ok (by decide +kernel)) rfl rfl ?_
    obtain ⟨q3, h4, h⟩ := bnd h
    refine V_callV0 C (As := [.int (cI (-2))]) (rest := []) (by decide +kernel) ok_yX5_no mk_RX5_77 (cfX5_no (l := E.l) (G := E.G) a0 h4) (q0 := 0) rfl rfl rfl rfl rfl rfl (Nat.le_of_ble_eq_true rfl) (Nat.le_of_ble_eq_true rfl) (Nat.le_of_ble_eq_true rfl) ?_
    show V E _ (wdM E.G a0 q3.2) 15 [(0, .ref (a0 0)), (1, .int p1), (2, .int p2)] [.int q3.1]
    have h := Option.some.inj h
    subst h
    exact V_iret C (by decide +kernel) rfl
  · refine V_pb C hn [(.aload_n 0, 1)] (pc' := 17) (ls' := [(0, .ref (a0 0)), (1, .int p1), (2, .int p2)]) (st' := [.ref (a0 0)]) (decB_ok (by decide +kernel)) rfl rfl ?_
    obtain ⟨q5, h6, h⟩ := bnd h
    refine V_callV0 C (As := []) (rest := []) (by decide +kernel) ok_yX5_begins mk_RX5_222 (cfX5_begins (l := E.l) (G := E.G) a0 h6) (q0 := 0) rfl rfl rfl rfl rfl rfl (Nat.le_of_ble_eq_true rfl) (Nat.le_of_ble_eq_true rfl) (Nat.le_of_ble_eq_true rfl) ?_
    show V E _ (wdM E.G a0 q5) 20 [(0, .ref (a0 0)), (1, .int p1), (2, .int p2)] []
    refine V_pb C hn [(.iconst 0, 1), (.istore_n 3, 1), (.iconst 0, 1), (.istore 4, 2)] (pc' := 25) (ls' := [(0, .ref (a0 0)), (1, .int p1), (2, .int p2), (3, .int (0 : Int32)), (4, .int (0 : Int32))]) (st' := []) (decB_ok (by decide +kernel)) rfl rfl ?_
    refine V_sub (ls' := [(0, .ref (a0 0)), (1, .int p1), (2, .int p2), (3, .int (0 : Int32)), (4, .int (0 : Int32))]) rfl ?_
    exact cfX5_together_L25 C hn FU _ _ _ h
set_option maxRecDepth 100000 in
set_option maxHeartbeats 400000 in
theorem cfX5_round_j74 {E : VE} (C : Ctx E cX5_round RX5 8 (some .int)) (hn : E.nL = 5) {a0 : Nat → Nat} {v1 : Int32} {S0 : MT} {out : Int32 × MT} (h : fX5_round_j74 v1 S0 = some out) : V E (QR E (some (.int out.1)) (wdM E.G a0 out.2)) (wdM E.G a0 S0) 74 [(0, .ref (a0 0)), (1, .int v1)] [] := by
  unfold fX5_round_j74 at h
  refine V_pb C hn [(.aload_n 0, 1)] (pc' := 75) (ls' := [(0, .ref (a0 0)), (1, .int v1)]) (st' := [.ref (a0 0)]) (decB_ok (by decide +kernel)) rfl rfl ?_
  obtain ⟨q3, h4, h⟩ := bnd h
  refine V_callV0 C (As := []) (rest := []) (by decide +kernel) ok_yX5_ends mk_RX5_232 (cfX5_ends (l := E.l) (G := E.G) a0 h4) (q0 := 0) rfl rfl rfl rfl rfl rfl (Nat.le_of_ble_eq_true rfl) (Nat.le_of_ble_eq_true rfl) (Nat.le_of_ble_eq_true rfl) ?_
  show V E _ (wdM E.G a0 q3) 78 [(0, .ref (a0 0)), (1, .int v1)] []
  refine V_pb C hn [(.iload_n 1, 1)] (pc' := 79) (ls' := [(0, .ref (a0 0)), (1, .int v1)]) (st' := [.int v1]) (decB_ok (by decide +kernel)) rfl rfl ?_
  have h := Option.some.inj h
  subst h
  exact V_iret C (by decide +kernel) rfl
set_option maxRecDepth 100000 in
set_option maxHeartbeats 400000 in
theorem cfX5_round_j68 {E : VE} (C : Ctx E cX5_round RX5 8 (some .int)) (hn : E.nL = 5) {a0 : Nat → Nat} {v1 : Int32} {v2 : Int32} {S0 : MT} {out : Int32 × MT} {k8 : Int32 → Int32 → MT → Option (Int32 × MT)} (hk8 : ∀ (v1 : Int32) (v2 : Int32) (S0 : MT), k8 v1 v2 S0 = some out → V E (QR E (some (.int out.1)) (wdM E.G a0 out.2)) (wdM E.G a0 S0) 8 [(0, .ref (a0 0)), (1, .int v1), (2, .int v2)] []) (h : fX5_round_j68 k8 v1 v2 S0 = some out) : V E (QR E (some (.int out.1)) (wdM E.G a0 out.2)) (wdM E.G a0 S0) 68 [(0, .ref (a0 0)), (1, .int v1), (2, .int v2)] [] := by
  unfold fX5_round_j68 at h
  refine V_pb C hn [(.iinc 2 1, 3)] (pc' := 71) (ls' := [(0, .ref (a0 0)), (1, .int v1), (2, .int (v2 + (1 : Int32)))]) (st' := []) (decB_ok (by decide +kernel)) rfl rfl ?_
  refine V_goto C (off := -63) (tgt := 8) (by decide +kernel) (by decide) ?_
  refine V_sub (ls' := [(0, .ref (a0 0)), (1, .int v1), (2, .int (v2 + (1 : Int32)))]) rfl ?_
  exact hk8 _ _ _ h
set_option maxRecDepth 100000 in
set_option maxHeartbeats 400000 in
theorem cfX5_round_j62 {E : VE} (C : Ctx E cX5_round RX5 8 (some .int)) (hn : E.nL = 5) {a0 : Nat → Nat} {v1 : Int32} {v2 : Int32} {v3 : Int32} {S0 : MT} {out : Int32 × MT} {k8 : Int32 → Int32 → MT → Option (Int32 × MT)} (hk8 : ∀ (v1 : Int32) (v2 : Int32) (S0 : MT), k8 v1 v2 S0 = some out → V E (QR E (some (.int out.1)) (wdM E.G a0 out.2)) (wdM E.G a0 S0) 8 [(0, .ref (a0 0)), (1, .int v1), (2, .int v2)] []) (h : fX5_round_j62 k8 v1 v2 v3 S0 = some out) : V E (QR E (some (.int out.1)) (wdM E.G a0 out.2)) (wdM E.G a0 S0) 62 [(0, .ref (a0 0)), (1, .int v1), (2, .int v2), (3, .int v3)] [] := by
  unfold fX5_round_j62 at h
  refine V_pb C hn [(.iload_n 3, 1)] (pc' := 63) (ls' := [(0, .ref (a0 0)), (1, .int v1), (2, .int v2), (3, .int v3)]) (st' := [.int v3]) (decB_ok (by decide +kernel)) rfl rfl ?_
  refine V_if_eq C (off := 5) (tgt := 68) (by decide +kernel) (by decide) h (fun _ h => ?_) (fun _ h => ?_)
  · refine V_sub (ls' := [(0, .ref (a0 0)), (1, .int v1), (2, .int v2)]) rfl ?_
    exact cfX5_round_j68 C hn (k8 := k8) (hk8) h
  · refine V_pb C hn [(.iload_n 2, 1), (.istore_n 1, 1)] (pc' := 68) (ls' := [(0, .ref (a0 0)), (1, .int v2), (2, .int v2), (3, .int v3)]) (st' := []) (decB_ok (by decide +kernel)) rfl rfl ?_
    refine V_sub (ls' := [(0, .ref (a0 0)), (1, .int v2), (2, .int v2)]) rfl ?_
    exact cfX5_round_j68 C hn (k8 := k8) (hk8) h
set_option maxRecDepth 100000 in
set_option maxHeartbeats 400000 in
theorem cfX5_round_j56 {E : VE} (C : Ctx E cX5_round RX5 8 (some .int)) (hn : E.nL = 5) {a0 : Nat → Nat} {v1 : Int32} {v2 : Int32} {v3 : Int32} {v4 : Int32} {S0 : MT} {out : Int32 × MT} {k8 : Int32 → Int32 → MT → Option (Int32 × MT)} (hk8 : ∀ (v1 : Int32) (v2 : Int32) (S0 : MT), k8 v1 v2 S0 = some out → V E (QR E (some (.int out.1)) (wdM E.G a0 out.2)) (wdM E.G a0 S0) 8 [(0, .ref (a0 0)), (1, .int v1), (2, .int v2)] []) {k28 : Int32 → Int32 → Int32 → Int32 → MT → Option (Int32 × MT)} (hk28 : ∀ (v1 : Int32) (v2 : Int32) (v3 : Int32) (v4 : Int32) (S0 : MT), k28 v1 v2 v3 v4 S0 = some out → V E (QR E (some (.int out.1)) (wdM E.G a0 out.2)) (wdM E.G a0 S0) 28 [(0, .ref (a0 0)), (1, .int v1), (2, .int v2), (3, .int v3), (4, .int v4)] []) (h : fX5_round_j56 k8 k28 v1 v2 v3 v4 S0 = some out) : V E (QR E (some (.int out.1)) (wdM E.G a0 out.2)) (wdM E.G a0 S0) 56 [(0, .ref (a0 0)), (1, .int v1), (2, .int v2), (3, .int v3), (4, .int v4)] [] := by
  unfold fX5_round_j56 at h
  refine V_pb C hn [(.iinc 4 1, 3)] (pc' := 59) (ls' := [(0, .ref (a0 0)), (1, .int v1), (2, .int v2), (3, .int v3), (4, .int (v4 + (1 : Int32)))]) (st' := []) (decB_ok (by decide +kernel)) rfl rfl ?_
  refine V_goto C (off := -31) (tgt := 28) (by decide +kernel) (by decide) ?_
  refine V_sub (ls' := [(0, .ref (a0 0)), (1, .int v1), (2, .int v2), (3, .int v3), (4, .int (v4 + (1 : Int32)))]) rfl ?_
  exact hk28 _ _ _ _ _ h
set_option maxRecDepth 100000 in
set_option maxHeartbeats 400000 in
theorem cfX5_round_L28 {E : VE} (C : Ctx E cX5_round RX5 8 (some .int)) (hn : E.nL = 5) {a0 : Nat → Nat} {out : Int32 × MT} {k8 : Int32 → Int32 → MT → Option (Int32 × MT)} (hk8 : ∀ (v1 : Int32) (v2 : Int32) (S0 : MT), k8 v1 v2 S0 = some out → V E (QR E (some (.int out.1)) (wdM E.G a0 out.2)) (wdM E.G a0 S0) 8 [(0, .ref (a0 0)), (1, .int v1), (2, .int v2)] []) : ∀ (n : Nat) (v1 : Int32) (v2 : Int32) (v3 : Int32) (v4 : Int32) (S0 : MT), fX5_round_L28 k8 n v1 v2 v3 v4 S0 = some out → V E (QR E (some (.int out.1)) (wdM E.G a0 out.2)) (wdM E.G a0 S0) 28 [(0, .ref (a0 0)), (1, .int v1), (2, .int v2), (3, .int v3), (4, .int v4)] [] := by
  intro n
  induction n with
  | zero =>
    intro v1 v2 v3 v4 S0 h
    cases h
  | succ n ih =>
    intro v1 v2 v3 v4 S0 h
    unfold fX5_round_L28 at h
    refine V_pb C hn [(.iload 4, 2), (.aload_n 0, 1)] (pc' := 31) (ls' := [(0, .ref (a0 0)), (1, .int v1), (2, .int v2), (3, .int v3), (4, .int v4)]) (st' := [.ref (a0 0), .int v4]) (decB_ok (by decide +kernel)) rfl rfl ?_
    refine V_get C (v := .int (m_motes S0)) (by decide +kernel) 0 1 fk_RX5_60 rfl rfl ?_
    refine V_ic_ge C (off := 28) (tgt := 62) (by decide +kernel) (by decide) h (fun _ h => ?_) (fun _ h => ?_)
    · refine V_sub (ls' := [(0, .ref (a0 0)), (1, .int v1), (2, .int v2), (3, .int v3)]) rfl ?_
      exact cfX5_round_j62 C hn (k8 := k8) (hk8) h
    · refine V_pb C hn [(.aload_n 0, 1)] (pc' := 38) (ls' := [(0, .ref (a0 0)), (1, .int v1), (2, .int v2), (3, .int v3), (4, .int v4)]) (st' := [.ref (a0 0)]) (decB_ok (by decide +kernel)) rfl rfl ?_
      refine V_get C (v := .ref (a0 3)) (by decide +kernel) 0 4 fk_RX5_16 rfl rfl ?_
      refine V_pb C hn [(.iload 4, 2)] (pc' := 43) (ls' := [(0, .ref (a0 0)), (1, .int v1), (2, .int v2), (3, .int v3), (4, .int v4)]) (st' := [.int v4, .ref (a0 3)]) (decB_ok (by decide +kernel)) rfl rfl ?_
      refine V_iald C (f := (m_cell S0)) (by decide +kernel) 3 rfl h (fun h => ?_)
      refine V_pb C hn [(.aload_n 0, 1)] (pc' := 45) (ls' := [(0, .ref (a0 0)), (1, .int v1), (2, .int v2), (3, .int v3), (4, .int v4)]) (st' := [.ref (a0 0), .int ((m_cell S0) (ix v4))]) (decB_ok (by decide +kernel)) rfl rfl ?_
      refine V_get C (v := .ref (a0 12)) (by decide +kernel) 0 21 fk_RX5_44 rfl rfl ?_
      refine V_pb C hn [(.iload 4, 2)] (pc' := 50) (ls' := [(0, .ref (a0 0)), (1, .int v1), (2, .int v2), (3, .int v3), (4, .int v4)]) (st' := [.int v4, .ref (a0 12), .int ((m_cell S0) (ix v4))]) (decB_ok (by decide +kernel)) rfl rfl ?_
      refine V_iald C (f := (m_was S0)) (by decide +kernel) 12 rfl h (fun h => ?_)
      refine V_ic_eq C (off := 5) (tgt := 56) (by decide +kernel) (by decide) h (fun _ h => ?_) (fun _ h => ?_)
      · refine V_sub (ls' := [(0, .ref (a0 0)), (1, .int v1), (2, .int v2), (3, .int v3), (4, .int v4)]) rfl ?_
        exact cfX5_round_j56 C hn (k8 := k8) (hk8) (k28 := (fun v1 v2 v3 v4 S0 => fX5_round_L28 k8 n v1 v2 v3 v4 S0)) (fun v1 v2 v3 v4 S0 h => ih v1 v2 v3 v4 S0 h) h
      · refine V_pb C hn [(.iconst 0, 1), (.istore_n 3, 1)] (pc' := 56) (ls' := [(0, .ref (a0 0)), (1, .int v1), (2, .int v2), (3, .int (0 : Int32)), (4, .int v4)]) (st' := []) (decB_ok (by decide +kernel)) rfl rfl ?_
        refine V_sub (ls' := [(0, .ref (a0 0)), (1, .int v1), (2, .int v2), (3, .int (0 : Int32)), (4, .int v4)]) rfl ?_
        exact cfX5_round_j56 C hn (k8 := k8) (hk8) (k28 := (fun v1 v2 v3 v4 S0 => fX5_round_L28 k8 n v1 v2 v3 v4 S0)) (fun v1 v2 v3 v4 S0 h => ih v1 v2 v3 v4 S0 h) h
set_option maxRecDepth 100000 in
set_option maxHeartbeats 400000 in
theorem cfX5_round_L8 {E : VE} (C : Ctx E cX5_round RX5 8 (some .int)) (hn : E.nL = 5) {a0 : Nat → Nat} {out : Int32 × MT} : ∀ (n : Nat) (v1 : Int32) (v2 : Int32) (S0 : MT), fX5_round_L8 n v1 v2 S0 = some out → V E (QR E (some (.int out.1)) (wdM E.G a0 out.2)) (wdM E.G a0 S0) 8 [(0, .ref (a0 0)), (1, .int v1), (2, .int v2)] [] := by
  intro n
  induction n with
  | zero =>
    intro v1 v2 S0 h
    cases h
  | succ n ih =>
    intro v1 v2 S0 h
    unfold fX5_round_L8 at h
    refine V_pb C hn [(.iload_n 2, 1), (.bipush 24, 2)] (pc' := 11) (ls' := [(0, .ref (a0 0)), (1, .int v1), (2, .int v2)]) (st' := [.int (24 : Int32), .int v2]) (decB_ok (by decide +kernel)) rfl rfl ?_
    refine V_ic_gt C (off := 63) (tgt := 74) (by decide +kernel) (by decide) h (fun _ h => ?_) (fun _ h => ?_)
    · refine V_sub (ls' := [(0, .ref (a0 0)), (1, .int v1)]) rfl ?_
      exact cfX5_round_j74 C hn h
    · refine V_pb C hn [(.iload_n 1, 1), (.iconst (-1), 1)] (pc' := 16) (ls' := [(0, .ref (a0 0)), (1, .int v1), (2, .int v2)]) (st' := [.int (cI (-1)), .int v1]) (decB_ok (by decide +kernel)) rfl rfl ?_
      refine V_ic_ne C (off := 58) (tgt := 74) (by decide +kernel) (by decide) h (fun _ h => ?_) (fun _ h => ?_)
      · refine V_pb C hn [(.aload_n 0, 1)] (pc' := 20) (ls' := [(0, .ref (a0 0)), (1, .int v1), (2, .int v2)]) (st' := [.ref (a0 0)]) (decB_ok (by decide +kernel)) rfl rfl ?_
        obtain ⟨q5, h6, h⟩ := bnd h
        refine V_callV0 C (As := []) (rest := []) (by decide +kernel) ok_yX5_step mk_RX5_225 (cfX5_step (l := E.l) (G := E.G) a0 h6) (q0 := 0) rfl rfl rfl rfl rfl rfl (Nat.le_of_ble_eq_true rfl) (Nat.le_of_ble_eq_true rfl) (Nat.le_of_ble_eq_true rfl) ?_
        show V E _ (wdM E.G a0 q5) 23 [(0, .ref (a0 0)), (1, .int v1), (2, .int v2)] []
        refine V_pb C hn [(.iconst 1, 1), (.istore_n 3, 1), (.iconst 0, 1), (.istore 4, 2)] (pc' := 28) (ls' := [(0, .ref (a0 0)), (1, .int v1), (2, .int v2), (3, .int (1 : Int32)), (4, .int (0 : Int32))]) (st' := []) (decB_ok (by decide +kernel)) rfl rfl ?_
        refine V_sub (ls' := [(0, .ref (a0 0)), (1, .int v1), (2, .int v2), (3, .int (1 : Int32)), (4, .int (0 : Int32))]) rfl ?_
        exact cfX5_round_L28 C hn (k8 := (fun v1 v2 S0 => fX5_round_L8 n v1 v2 S0)) (fun v1 v2 S0 h => ih v1 v2 S0 h) FU _ _ _ _ _ h
      · refine V_sub (ls' := [(0, .ref (a0 0)), (1, .int v1)]) rfl ?_
        exact cfX5_round_j74 C hn h
set_option maxRecDepth 100000 in
set_option maxHeartbeats 400000 in
theorem cfX5_round {l : Launch} {G : GG} (a0 : Nat → Nat) {S0 : MT} {out : Int32 × MT} (h : fX5_round S0 = some out) : Con l G 8 yX5_round cX5_round 5 (some .int) [.ref (a0 0)] (wdM G a0 S0) (some (.int out.1)) (wdM G a0 out.2) := by
  refine Con_of (by decide +kernel) (Nat.le_of_ble_eq_true rfl) (fun E hl hG hn C => ?_)
  subst hl
  subst hG
  have C : Ctx E cX5_round RX5 8 (some .int) := C
  show V E _ _ 0 [(0, .ref (a0 0))] []
  unfold fX5_round at h
  refine V_pb C hn [(.aload_n 0, 1)] (pc' := 1) (ls' := [(0, .ref (a0 0))]) (st' := [.ref (a0 0)]) (decB_ok (by decide +kernel)) rfl rfl ?_
  obtain ⟨q1, h2, h⟩ := bnd h
  refine V_callV0 C (As := []) (rest := []) (by decide +kernel) ok_yX5_begins mk_RX5_222 (cfX5_begins (l := E.l) (G := E.G) a0 h2) (q0 := 0) rfl rfl rfl rfl rfl rfl (Nat.le_of_ble_eq_true rfl) (Nat.le_of_ble_eq_true rfl) (Nat.le_of_ble_eq_true rfl) ?_
  show V E _ (wdM E.G a0 q1) 4 [(0, .ref (a0 0))] []
  refine V_pb C hn [(.iconst (-1), 1), (.istore_n 1, 1), (.iconst 1, 1), (.istore_n 2, 1)] (pc' := 8) (ls' := [(0, .ref (a0 0)), (1, .int (cI (-1))), (2, .int (1 : Int32))]) (st' := []) (decB_ok (by decide +kernel)) rfl rfl ?_
  refine V_sub (ls' := [(0, .ref (a0 0)), (1, .int (cI (-1))), (2, .int (1 : Int32))]) rfl ?_
  exact cfX5_round_L8 C hn FU _ _ _ h
set_option maxRecDepth 100000 in
set_option maxHeartbeats 400000 in
theorem cfX5_way_j40 {E : VE} (C : Ctx E cX5_way RX5 8 (some .int)) (hn : E.nL = 5) {a0 : Nat → Nat} {p1 : Int32} {v2 : Int64} {v4 : Int32} {S0 : MT} {out : Int32 × MT} {k24 : Int64 → Int32 → MT → Option (Int32 × MT)} (hk24 : ∀ (v2 : Int64) (v4 : Int32) (S0 : MT), k24 v2 v4 S0 = some out → V E (QR E (some (.int out.1)) (wdM E.G a0 out.2)) (wdM E.G a0 S0) 24 [(0, .ref (a0 0)), (1, .int p1), (2, .long v2), (4, .int v4)] []) (h : fX5_way_j40 k24 p1 v2 v4 S0 = some out) : V E (QR E (some (.int out.1)) (wdM E.G a0 out.2)) (wdM E.G a0 S0) 40 [(0, .ref (a0 0)), (1, .int p1), (2, .long v2), (4, .int v4)] [] := by
  unfold fX5_way_j40 at h
  refine V_pb C hn [(.lload_n 2, 1), (.lconst 1, 1), (.bipush 7, 2), (.aload_n 0, 1)] (pc' := 45) (ls' := [(0, .ref (a0 0)), (1, .int p1), (2, .long v2), (4, .int v4)]) (st' := [.ref (a0 0), .int (7 : Int32), .long (1 : Int64), .long v2]) (decB_ok (by decide +kernel)) rfl rfl ?_
  refine V_get C (v := .ref (a0 3)) (by decide +kernel) 0 4 fk_RX5_16 rfl rfl ?_
  refine V_pb C hn [(.iload_n 1, 1)] (pc' := 49) (ls' := [(0, .ref (a0 0)), (1, .int p1), (2, .long v2), (4, .int v4)]) (st' := [.int p1, .ref (a0 3), .int (7 : Int32), .long (1 : Int64), .long v2]) (decB_ok (by decide +kernel)) rfl rfl ?_
  refine V_iald C (f := (m_cell S0)) (by decide +kernel) 3 rfl h (fun h => ?_)
  refine V_pb C hn [(.bipush 10, 2)] (pc' := 52) (ls' := [(0, .ref (a0 0)), (1, .int p1), (2, .long v2), (4, .int v4)]) (st' := [.int (10 : Int32), .int ((m_cell S0) (ix p1)), .int (7 : Int32), .long (1 : Int64), .long v2]) (decB_ok (by decide +kernel)) rfl rfl ?_
  refine V_idiv C (by decide +kernel) (by decide) ?_
  refine V_pb C hn [(.imul, 1), (.aload_n 0, 1)] (pc' := 55) (ls' := [(0, .ref (a0 0)), (1, .int p1), (2, .long v2), (4, .int v4)]) (st' := [.ref (a0 0), .int ((7 : Int32) * (((m_cell S0) (ix p1)) / (10 : Int32))), .long (1 : Int64), .long v2]) (decB_ok (by decide +kernel)) rfl rfl ?_
  refine V_get C (v := .ref (a0 3)) (by decide +kernel) 0 4 fk_RX5_16 rfl rfl ?_
  refine V_pb C hn [(.iload_n 1, 1)] (pc' := 59) (ls' := [(0, .ref (a0 0)), (1, .int p1), (2, .long v2), (4, .int v4)]) (st' := [.int p1, .ref (a0 3), .int ((7 : Int32) * (((m_cell S0) (ix p1)) / (10 : Int32))), .long (1 : Int64), .long v2]) (decB_ok (by decide +kernel)) rfl rfl ?_
  refine V_iald C (f := (m_cell S0)) (by decide +kernel) 3 rfl h (fun h => ?_)
  refine V_pb C hn [(.bipush 10, 2)] (pc' := 62) (ls' := [(0, .ref (a0 0)), (1, .int p1), (2, .long v2), (4, .int v4)]) (st' := [.int (10 : Int32), .int ((m_cell S0) (ix p1)), .int ((7 : Int32) * (((m_cell S0) (ix p1)) / (10 : Int32))), .long (1 : Int64), .long v2]) (decB_ok (by decide +kernel)) rfl rfl ?_
  refine V_irem C (by decide +kernel) (by decide) ?_
  refine V_pb C hn [(.iadd, 1), (.lshl, 1), (.lor, 1), (.lstore_n 2, 1), (.iinc 4 1, 3)] (pc' := 70) (ls' := [(0, .ref (a0 0)), (1, .int p1), (2, .long (v2 ||| (jlshl (1 : Int64) (((7 : Int32) * (((m_cell S0) (ix p1)) / (10 : Int32))) + (irm ((m_cell S0) (ix p1)) (10 : Int32)))))), (4, .int (v4 + (1 : Int32)))]) (st' := []) (decB_ok (by decide +kernel)) rfl rfl ?_
  refine V_goto C (off := -46) (tgt := 24) (by decide +kernel) (by decide) ?_
  refine V_sub (ls' := [(0, .ref (a0 0)), (1, .int p1), (2, .long (v2 ||| (jlshl (1 : Int64) (((7 : Int32) * (((m_cell S0) (ix p1)) / (10 : Int32))) + (irm ((m_cell S0) (ix p1)) (10 : Int32)))))), (4, .int (v4 + (1 : Int32)))]) rfl ?_
  exact hk24 _ _ _ h
set_option maxRecDepth 100000 in
set_option maxHeartbeats 400000 in
theorem cfX5_way_L24 {E : VE} (C : Ctx E cX5_way RX5 8 (some .int)) (hn : E.nL = 5) {a0 : Nat → Nat} {p1 : Int32} {out : Int32 × MT} : ∀ (n : Nat) (v2 : Int64) (v4 : Int32) (S0 : MT), fX5_way_L24 p1 n v2 v4 S0 = some out → V E (QR E (some (.int out.1)) (wdM E.G a0 out.2)) (wdM E.G a0 S0) 24 [(0, .ref (a0 0)), (1, .int p1), (2, .long v2), (4, .int v4)] [] := by
  intro n
  induction n with
  | zero =>
    intro v2 v4 S0 h
    cases h
  | succ n ih =>
    intro v2 v4 S0 h
    unfold fX5_way_L24 at h
    refine V_pb C hn [(.iload 4, 2), (.bipush 24, 2)] (pc' := 28) (ls' := [(0, .ref (a0 0)), (1, .int p1), (2, .long v2), (4, .int v4)]) (st' := [.int (24 : Int32), .int v4]) (decB_ok (by decide +kernel)) rfl rfl ?_
    refine V_ic_gt C (off := 45) (tgt := 73) (by decide +kernel) (by decide) h (fun _ h => ?_) (fun _ h => ?_)
    · refine V_pb C hn [(.aload_n 0, 1)] (pc' := 74) (ls' := [(0, .ref (a0 0)), (1, .int p1), (2, .long v2), (4, .int v4)]) (st' := [.ref (a0 0)]) (decB_ok (by decide +kernel)) rfl rfl ?_
      obtain ⟨q7, h8, h⟩ := bnd h
      refine V_callV0 C (As := []) (rest := []) (by decide +kernel) ok_yX5_ends mk_RX5_232 (cfX5_ends (l := E.l) (G := E.G) a0 h8) (q0 := 0) rfl rfl rfl rfl rfl rfl (Nat.le_of_ble_eq_true rfl) (Nat.le_of_ble_eq_true rfl) (Nat.le_of_ble_eq_true rfl) ?_
      show V E _ (wdM E.G a0 q7) 77 [(0, .ref (a0 0)), (1, .int p1), (2, .long v2), (4, .int v4)] []
      refine V_pb C hn [(.lload_n 2, 1)] (pc' := 78) (ls' := [(0, .ref (a0 0)), (1, .int p1), (2, .long v2), (4, .int v4)]) (st' := [.long v2]) (decB_ok (by decide +kernel)) rfl rfl ?_
      obtain ⟨q9, h10, h⟩ := bnd h
      refine V_callSp C (As := [.long v2]) (rest := []) (by decide +kernel) ok_yJ13_bitCount_95d88 mk_RX5_331 (cfJ13_bitCount_95d88 (l := E.l) (G := E.G) h10) [] rfl rfl rfl rfl (Nat.le_of_ble_eq_true rfl) (Nat.le_of_ble_eq_true rfl) (Nat.le_of_ble_eq_true rfl) ?_
      show V E _ (wdM E.G a0 q7) 81 [(0, .ref (a0 0)), (1, .int p1), (2, .long v2), (4, .int v4)] [.int q9]
      have h := Option.some.inj h
      subst h
      exact V_iret C (by decide +kernel) rfl
    · refine V_pb C hn [(.iload 4, 2)] (pc' := 33) (ls' := [(0, .ref (a0 0)), (1, .int p1), (2, .long v2), (4, .int v4)]) (st' := [.int v4]) (decB_ok (by decide +kernel)) rfl rfl ?_
      refine V_if_le C (off := 7) (tgt := 40) (by decide +kernel) (by decide) h (fun _ h => ?_) (fun _ h => ?_)
      · refine V_sub (ls' := [(0, .ref (a0 0)), (1, .int p1), (2, .long v2), (4, .int v4)]) rfl ?_
        exact cfX5_way_j40 C hn (k24 := (fun v2 v4 S0 => fX5_way_L24 p1 n v2 v4 S0)) (fun v2 v4 S0 h => ih v2 v4 S0 h) h
      · refine V_pb C hn [(.aload_n 0, 1)] (pc' := 37) (ls' := [(0, .ref (a0 0)), (1, .int p1), (2, .long v2), (4, .int v4)]) (st' := [.ref (a0 0)]) (decB_ok (by decide +kernel)) rfl rfl ?_
        obtain ⟨q11, h12, h⟩ := bnd h
        refine V_callV0 C (As := []) (rest := []) (by decide +kernel) ok_yX5_step mk_RX5_225 (cfX5_step (l := E.l) (G := E.G) a0 h12) (q0 := 0) rfl rfl rfl rfl rfl rfl (Nat.le_of_ble_eq_true rfl) (Nat.le_of_ble_eq_true rfl) (Nat.le_of_ble_eq_true rfl) ?_
        show V E _ (wdM E.G a0 q11) 40 [(0, .ref (a0 0)), (1, .int p1), (2, .long v2), (4, .int v4)] []
        refine V_sub (ls' := [(0, .ref (a0 0)), (1, .int p1), (2, .long v2), (4, .int v4)]) rfl ?_
        exact cfX5_way_j40 C hn (k24 := (fun v2 v4 S0 => fX5_way_L24 p1 n v2 v4 S0)) (fun v2 v4 S0 h => ih v2 v4 S0 h) h
set_option maxRecDepth 100000 in
set_option maxHeartbeats 400000 in
theorem cfX5_way {l : Launch} {G : GG} (a0 : Nat → Nat) {p1 : Int32} {S0 : MT} {out : Int32 × MT} (h : fX5_way p1 S0 = some out) : Con l G 8 yX5_way cX5_way 5 (some .int) [.ref (a0 0), .int p1] (wdM G a0 S0) (some (.int out.1)) (wdM G a0 out.2) := by
  refine Con_of (by decide +kernel) (Nat.le_of_ble_eq_true rfl) (fun E hl hG hn C => ?_)
  subst hl
  subst hG
  have C : Ctx E cX5_way RX5 8 (some .int) := C
  show V E _ _ 0 [(0, .ref (a0 0)), (1, .int p1)] []
  unfold fX5_way at h
  refine V_pb C hn [(.aload_n 0, 1), (.iload_n 1, 1)] (pc' := 2) (ls' := [(0, .ref (a0 0)), (1, .int p1)]) (st' := [.int p1, .ref (a0 0)]) (decB_ok (by decide +kernel)) rfl rfl ?_
  obtain ⟨q1, h2, h⟩ := bnd h
  refine V_callV0 C (As := [.int p1]) (rest := []) (by decide +kernel) ok_yX5_isMote mk_RX5_91 (cfX5_isMote (l := E.l) (G := E.G) a0 h2) (q0 := 0) rfl rfl rfl rfl rfl rfl (Nat.le_of_ble_eq_true rfl) (Nat.le_of_ble_eq_true rfl) (Nat.le_of_ble_eq_true rfl) ?_
  show V E _ (wdM E.G a0 S0) 5 [(0, .ref (a0 0)), (1, .int p1)] [.int q1]
  refine V_if_ne C (off := 10) (tgt := 15) (by decide +kernel) (by decide) h (fun _ h => ?_) (fun _ h => ?_)
  · refine V_pb C hn [(.aload_n 0, 1), (.bipush (-2), 2)] (pc' := 11) (ls' := [(0, .ref (a0 0)), (1, .int p1)]) (st' := [.int (cI (-2)), .ref (a0 0)]) (decB_ok (by decide +kernel)) rfl rfl ?_
    obtain ⟨q3, h4, h⟩ := bnd h
    refine V_callV0 C (As := [.int (cI (-2))]) (rest := []) (by decide +kernel) ok_yX5_no mk_RX5_77 (cfX5_no (l := E.l) (G := E.G) a0 h4) (q0 := 0) rfl rfl rfl rfl rfl rfl (Nat.le_of_ble_eq_true rfl) (Nat.le_of_ble_eq_true rfl) (Nat.le_of_ble_eq_true rfl) ?_
    show V E _ (wdM E.G a0 q3.2) 14 [(0, .ref (a0 0)), (1, .int p1)] [.int q3.1]
    have h := Option.some.inj h
    subst h
    exact V_iret C (by decide +kernel) rfl
  · refine V_pb C hn [(.lconst 0, 1), (.lstore_n 2, 1), (.aload_n 0, 1)] (pc' := 18) (ls' := [(0, .ref (a0 0)), (1, .int p1), (2, .long (0 : Int64))]) (st' := [.ref (a0 0)]) (decB_ok (by decide +kernel)) rfl rfl ?_
    obtain ⟨q5, h6, h⟩ := bnd h
    refine V_callV0 C (As := []) (rest := []) (by decide +kernel) ok_yX5_begins mk_RX5_222 (cfX5_begins (l := E.l) (G := E.G) a0 h6) (q0 := 0) rfl rfl rfl rfl rfl rfl (Nat.le_of_ble_eq_true rfl) (Nat.le_of_ble_eq_true rfl) (Nat.le_of_ble_eq_true rfl) ?_
    show V E _ (wdM E.G a0 q5) 21 [(0, .ref (a0 0)), (1, .int p1), (2, .long (0 : Int64))] []
    refine V_pb C hn [(.iconst 0, 1), (.istore 4, 2)] (pc' := 24) (ls' := [(0, .ref (a0 0)), (1, .int p1), (2, .long (0 : Int64)), (4, .int (0 : Int32))]) (st' := []) (decB_ok (by decide +kernel)) rfl rfl ?_
    refine V_sub (ls' := [(0, .ref (a0 0)), (1, .int p1), (2, .long (0 : Int64)), (4, .int (0 : Int32))]) rfl ?_
    exact cfX5_way_L24 C hn FU _ _ _ h
set_option maxRecDepth 100000 in
set_option maxHeartbeats 400000 in
theorem cfX5_isWalled {l : Launch} {G : GG} (a0 : Nat → Nat) {p1 : Int32} {S0 : MT} {out : Int32} (h : fX5_isWalled p1 S0 = some out) : Con l G 0 yX5_isWalled cX5_isWalled 2 (some .boolean) [.ref (a0 0), .int p1] (wdM G a0 S0) (some (.int out)) (wdM G a0 S0) := by
  refine Con_of (by decide +kernel) (Nat.le_of_ble_eq_true rfl) (fun E hl hG hn C => ?_)
  subst hl
  subst hG
  have C : Ctx E cX5_isWalled RX5 0 (some .boolean) := C
  show V E _ _ 0 [(0, .ref (a0 0)), (1, .int p1)] []
  unfold fX5_isWalled at h
  refine V_pb C hn [(.iload_n 1, 1), (.bipush 10, 2)] (pc' := 3) (ls' := [(0, .ref (a0 0)), (1, .int p1)]) (st' := [.int (10 : Int32), .int p1]) (decB_ok (by decide +kernel)) rfl rfl ?_
  refine V_idiv C (by decide +kernel) (by decide) ?_
  refine V_if_eq C (off := 36) (tgt := 40) (by decide +kernel) (by decide) h (fun _ h => ?_) (fun _ h => ?_)
  · refine V_pb C hn [(.iconst 1, 1)] (pc' := 41) (ls' := [(0, .ref (a0 0)), (1, .int p1)]) (st' := [.int (1 : Int32)]) (decB_ok (by decide +kernel)) rfl rfl ?_
    refine V_goto C (off := 4) (tgt := 45) (by decide +kernel) (by decide) ?_
    have h := Option.some.inj h
    subst h
    exact V_iret C (v := (1 : Int32)) (by decide +kernel) nb1
  · refine V_pb C hn [(.iload_n 1, 1), (.bipush 10, 2)] (pc' := 10) (ls' := [(0, .ref (a0 0)), (1, .int p1)]) (st' := [.int (10 : Int32), .int p1]) (decB_ok (by decide +kernel)) rfl rfl ?_
    refine V_irem C (by decide +kernel) (by decide) ?_
    refine V_if_eq C (off := 29) (tgt := 40) (by decide +kernel) (by decide) h (fun _ h => ?_) (fun _ h => ?_)
    · refine V_pb C hn [(.iconst 1, 1)] (pc' := 41) (ls' := [(0, .ref (a0 0)), (1, .int p1)]) (st' := [.int (1 : Int32)]) (decB_ok (by decide +kernel)) rfl rfl ?_
      refine V_goto C (off := 4) (tgt := 45) (by decide +kernel) (by decide) ?_
      have h := Option.some.inj h
      subst h
      exact V_iret C (v := (1 : Int32)) (by decide +kernel) nb1
    · refine V_pb C hn [(.iload_n 1, 1), (.bipush 10, 2)] (pc' := 17) (ls' := [(0, .ref (a0 0)), (1, .int p1)]) (st' := [.int (10 : Int32), .int p1]) (decB_ok (by decide +kernel)) rfl rfl ?_
      refine V_idiv C (by decide +kernel) (by decide) ?_
      refine V_pb C hn [(.aload_n 0, 1)] (pc' := 19) (ls' := [(0, .ref (a0 0)), (1, .int p1)]) (st' := [.ref (a0 0), .int (p1 / (10 : Int32))]) (decB_ok (by decide +kernel)) rfl rfl ?_
      refine V_get C (v := .int (m_n S0)) (by decide +kernel) 0 0 fk_RX5_53 rfl rfl ?_
      refine V_pb C hn [(.iconst 1, 1), (.isub, 1)] (pc' := 24) (ls' := [(0, .ref (a0 0)), (1, .int p1)]) (st' := [.int ((m_n S0) - (1 : Int32)), .int (p1 / (10 : Int32))]) (decB_ok (by decide +kernel)) rfl rfl ?_
      refine V_ic_eq C (off := 16) (tgt := 40) (by decide +kernel) (by decide) h (fun _ h => ?_) (fun _ h => ?_)
      · refine V_pb C hn [(.iconst 1, 1)] (pc' := 41) (ls' := [(0, .ref (a0 0)), (1, .int p1)]) (st' := [.int (1 : Int32)]) (decB_ok (by decide +kernel)) rfl rfl ?_
        refine V_goto C (off := 4) (tgt := 45) (by decide +kernel) (by decide) ?_
        have h := Option.some.inj h
        subst h
        exact V_iret C (v := (1 : Int32)) (by decide +kernel) nb1
      · refine V_pb C hn [(.iload_n 1, 1), (.bipush 10, 2)] (pc' := 30) (ls' := [(0, .ref (a0 0)), (1, .int p1)]) (st' := [.int (10 : Int32), .int p1]) (decB_ok (by decide +kernel)) rfl rfl ?_
        refine V_irem C (by decide +kernel) (by decide) ?_
        refine V_pb C hn [(.aload_n 0, 1)] (pc' := 32) (ls' := [(0, .ref (a0 0)), (1, .int p1)]) (st' := [.ref (a0 0), .int (irm p1 (10 : Int32))]) (decB_ok (by decide +kernel)) rfl rfl ?_
        refine V_get C (v := .int (m_n S0)) (by decide +kernel) 0 0 fk_RX5_53 rfl rfl ?_
        refine V_pb C hn [(.iconst 1, 1), (.isub, 1)] (pc' := 37) (ls' := [(0, .ref (a0 0)), (1, .int p1)]) (st' := [.int ((m_n S0) - (1 : Int32)), .int (irm p1 (10 : Int32))]) (decB_ok (by decide +kernel)) rfl rfl ?_
        refine V_ic_ne C (off := 7) (tgt := 44) (by decide +kernel) (by decide) h (fun _ h => ?_) (fun _ h => ?_)
        · refine V_pb C hn [(.iconst 1, 1)] (pc' := 41) (ls' := [(0, .ref (a0 0)), (1, .int p1)]) (st' := [.int (1 : Int32)]) (decB_ok (by decide +kernel)) rfl rfl ?_
          refine V_goto C (off := 4) (tgt := 45) (by decide +kernel) (by decide) ?_
          have h := Option.some.inj h
          subst h
          exact V_iret C (v := (1 : Int32)) (by decide +kernel) nb1
        · refine V_pb C hn [(.iconst 0, 1)] (pc' := 45) (ls' := [(0, .ref (a0 0)), (1, .int p1)]) (st' := [.int (0 : Int32)]) (decB_ok (by decide +kernel)) rfl rfl ?_
          have h := Option.some.inj h
          subst h
          exact V_iret C (v := (0 : Int32)) (by decide +kernel) nb0
set_option maxRecDepth 100000 in
set_option maxHeartbeats 400000 in
theorem cfX5_walled_j47 {E : VE} (C : Ctx E cX5_walled RX5 9 (some .int)) (hn : E.nL = 4) {a0 : Nat → Nat} {p1 : Int32} {v2 : Int32} {v3 : Int32} {S0 : MT} {out : Int32 × MT} {k23 : Int32 → Int32 → MT → Option (Int32 × MT)} (hk23 : ∀ (v2 : Int32) (v3 : Int32) (S0 : MT), k23 v2 v3 S0 = some out → V E (QR E (some (.int out.1)) (wdM E.G a0 out.2)) (wdM E.G a0 S0) 23 [(0, .ref (a0 0)), (2, .int v2), (3, .int v3)] []) (h : fX5_walled_j47 k23 p1 v2 v3 S0 = some out) : V E (QR E (some (.int out.1)) (wdM E.G a0 out.2)) (wdM E.G a0 S0) 47 [(0, .ref (a0 0)), (2, .int v2), (3, .int v3)] [] := by
  unfold fX5_walled_j47 at h
  refine V_pb C hn [(.iinc 3 1, 3)] (pc' := 50) (ls' := [(0, .ref (a0 0)), (2, .int v2), (3, .int (v3 + (1 : Int32)))]) (st' := []) (decB_ok (by decide +kernel)) rfl rfl ?_
  refine V_goto C (off := -27) (tgt := 23) (by decide +kernel) (by decide) ?_
  refine V_sub (ls' := [(0, .ref (a0 0)), (2, .int v2), (3, .int (v3 + (1 : Int32)))]) rfl ?_
  exact hk23 _ _ _ h
set_option maxRecDepth 100000 in
set_option maxHeartbeats 400000 in
theorem cfX5_walled_L23 {E : VE} (C : Ctx E cX5_walled RX5 9 (some .int)) (hn : E.nL = 4) {a0 : Nat → Nat} {p1 : Int32} {out : Int32 × MT} : ∀ (n : Nat) (v2 : Int32) (v3 : Int32) (S0 : MT), fX5_walled_L23 p1 n v2 v3 S0 = some out → V E (QR E (some (.int out.1)) (wdM E.G a0 out.2)) (wdM E.G a0 S0) 23 [(0, .ref (a0 0)), (2, .int v2), (3, .int v3)] [] := by
  intro n
  induction n with
  | zero =>
    intro v2 v3 S0 h
    cases h
  | succ n ih =>
    intro v2 v3 S0 h
    unfold fX5_walled_L23 at h
    refine V_pb C hn [(.iload_n 3, 1), (.aload_n 0, 1)] (pc' := 25) (ls' := [(0, .ref (a0 0)), (2, .int v2), (3, .int v3)]) (st' := [.ref (a0 0), .int v3]) (decB_ok (by decide +kernel)) rfl rfl ?_
    refine V_get C (v := .int (m_motes S0)) (by decide +kernel) 0 1 fk_RX5_60 rfl rfl ?_
    refine V_ic_ge C (off := 25) (tgt := 53) (by decide +kernel) (by decide) h (fun _ h => ?_) (fun _ h => ?_)
    · refine V_pb C hn [(.aload_n 0, 1)] (pc' := 54) (ls' := [(0, .ref (a0 0)), (2, .int v2), (3, .int v3)]) (st' := [.ref (a0 0)]) (decB_ok (by decide +kernel)) rfl rfl ?_
      obtain ⟨q7, h8, h⟩ := bnd h
      refine V_callV0 C (As := []) (rest := []) (by decide +kernel) ok_yX5_ends mk_RX5_232 (cfX5_ends (l := E.l) (G := E.G) a0 h8) (q0 := 0) rfl rfl rfl rfl rfl rfl (Nat.le_of_ble_eq_true rfl) (Nat.le_of_ble_eq_true rfl) (Nat.le_of_ble_eq_true rfl) ?_
      show V E _ (wdM E.G a0 q7) 57 [(0, .ref (a0 0)), (2, .int v2), (3, .int v3)] []
      refine V_pb C hn [(.iload_n 2, 1)] (pc' := 58) (ls' := [(0, .ref (a0 0)), (2, .int v2), (3, .int v3)]) (st' := [.int v2]) (decB_ok (by decide +kernel)) rfl rfl ?_
      have h := Option.some.inj h
      subst h
      exact V_iret C (by decide +kernel) rfl
    · refine V_pb C hn [(.aload_n 0, 1), (.aload_n 0, 1)] (pc' := 33) (ls' := [(0, .ref (a0 0)), (2, .int v2), (3, .int v3)]) (st' := [.ref (a0 0), .ref (a0 0)]) (decB_ok (by decide +kernel)) rfl rfl ?_
      refine V_get C (v := .ref (a0 3)) (by decide +kernel) 0 4 fk_RX5_16 rfl rfl ?_
      refine V_pb C hn [(.iload_n 3, 1)] (pc' := 37) (ls' := [(0, .ref (a0 0)), (2, .int v2), (3, .int v3)]) (st' := [.int v3, .ref (a0 3), .ref (a0 0)]) (decB_ok (by decide +kernel)) rfl rfl ?_
      refine V_iald C (f := (m_cell S0)) (by decide +kernel) 3 rfl h (fun h => ?_)
      obtain ⟨q9, h10, h⟩ := bnd h
      refine V_callV0 C (As := [.int ((m_cell S0) (ix v3))]) (rest := []) (by decide +kernel) ok_yX5_isWalled mk_RX5_336 (cfX5_isWalled (l := E.l) (G := E.G) a0 h10) (q0 := 0) rfl rfl rfl rfl rfl rfl (Nat.le_of_ble_eq_true rfl) (Nat.le_of_ble_eq_true rfl) (Nat.le_of_ble_eq_true rfl) ?_
      show V E _ (wdM E.G a0 S0) 41 [(0, .ref (a0 0)), (2, .int v2), (3, .int v3)] [.int q9]
      refine V_if_eq C (off := 6) (tgt := 47) (by decide +kernel) (by decide) h (fun _ h => ?_) (fun _ h => ?_)
      · refine V_sub (ls' := [(0, .ref (a0 0)), (2, .int v2), (3, .int v3)]) rfl ?_
        exact cfX5_walled_j47 C hn (k23 := (fun v2 v3 S0 => fX5_walled_L23 p1 n v2 v3 S0)) (fun v2 v3 S0 h => ih v2 v3 S0 h) h
      · refine V_pb C hn [(.iinc 2 1, 3)] (pc' := 47) (ls' := [(0, .ref (a0 0)), (2, .int (v2 + (1 : Int32))), (3, .int v3)]) (st' := []) (decB_ok (by decide +kernel)) rfl rfl ?_
        refine V_sub (ls' := [(0, .ref (a0 0)), (2, .int (v2 + (1 : Int32))), (3, .int v3)]) rfl ?_
        exact cfX5_walled_j47 C hn (k23 := (fun v2 v3 S0 => fX5_walled_L23 p1 n v2 v3 S0)) (fun v2 v3 S0 h => ih v2 v3 S0 h) h
set_option maxRecDepth 100000 in
set_option maxHeartbeats 400000 in
theorem cfX5_walled {l : Launch} {G : GG} (a0 : Nat → Nat) {p1 : Int32} {S0 : MT} {out : Int32 × MT} (h : fX5_walled p1 S0 = some out) : Con l G 9 yX5_walled cX5_walled 4 (some .int) [.ref (a0 0), .int p1] (wdM G a0 S0) (some (.int out.1)) (wdM G a0 out.2) := by
  refine Con_of (by decide +kernel) (Nat.le_of_ble_eq_true rfl) (fun E hl hG hn C => ?_)
  subst hl
  subst hG
  have C : Ctx E cX5_walled RX5 9 (some .int) := C
  show V E _ _ 0 [(0, .ref (a0 0)), (1, .int p1)] []
  unfold fX5_walled at h
  refine V_pb C hn [(.iload_n 1, 1)] (pc' := 1) (ls' := [(0, .ref (a0 0)), (1, .int p1)]) (st' := [.int p1]) (decB_ok (by decide +kernel)) rfl rfl ?_
  obtain ⟨q1, h2, h⟩ := bnd h
  refine V_callSp C (As := [.int p1]) (rest := []) (by decide +kernel) ok_yX5_isTime mk_RX5_241 (cfX5_isTime (l := E.l) (G := E.G) h2) [] rfl rfl rfl rfl (Nat.le_of_ble_eq_true rfl) (Nat.le_of_ble_eq_true rfl) (Nat.le_of_ble_eq_true rfl) ?_
  show V E _ (wdM E.G a0 S0) 4 [(0, .ref (a0 0)), (1, .int p1)] [.int q1]
  refine V_if_ne C (off := 10) (tgt := 14) (by decide +kernel) (by decide) h (fun _ h => ?_) (fun _ h => ?_)
  · refine V_pb C hn [(.aload_n 0, 1), (.bipush (-2), 2)] (pc' := 10) (ls' := [(0, .ref (a0 0)), (1, .int p1)]) (st' := [.int (cI (-2)), .ref (a0 0)]) (decB_ok (by decide +kernel)) rfl rfl ?_
    obtain ⟨q3, h4, h⟩ := bnd h
    refine V_callV0 C (As := [.int (cI (-2))]) (rest := []) (by decide +kernel) ok_yX5_no mk_RX5_77 (cfX5_no (l := E.l) (G := E.G) a0 h4) (q0 := 0) rfl rfl rfl rfl rfl rfl (Nat.le_of_ble_eq_true rfl) (Nat.le_of_ble_eq_true rfl) (Nat.le_of_ble_eq_true rfl) ?_
    show V E _ (wdM E.G a0 q3.2) 13 [(0, .ref (a0 0)), (1, .int p1)] [.int q3.1]
    have h := Option.some.inj h
    subst h
    exact V_iret C (by decide +kernel) rfl
  · refine V_pb C hn [(.aload_n 0, 1), (.iload_n 1, 1)] (pc' := 16) (ls' := [(0, .ref (a0 0)), (1, .int p1)]) (st' := [.int p1, .ref (a0 0)]) (decB_ok (by decide +kernel)) rfl rfl ?_
    obtain ⟨q5, h6, h⟩ := bnd h
    refine V_callV0 C (As := [.int p1]) (rest := []) (by decide +kernel) ok_yX5_goesOn mk_RX5_228 (cfX5_goesOn (l := E.l) (G := E.G) a0 h6) (q0 := 0) rfl rfl rfl rfl rfl rfl (Nat.le_of_ble_eq_true rfl) (Nat.le_of_ble_eq_true rfl) (Nat.le_of_ble_eq_true rfl) ?_
    show V E _ (wdM E.G a0 q5) 19 [(0, .ref (a0 0)), (1, .int p1)] []
    refine V_pb C hn [(.iconst 0, 1), (.istore_n 2, 1), (.iconst 0, 1), (.istore_n 3, 1)] (pc' := 23) (ls' := [(0, .ref (a0 0)), (1, .int p1), (2, .int (0 : Int32)), (3, .int (0 : Int32))]) (st' := []) (decB_ok (by decide +kernel)) rfl rfl ?_
    refine V_sub (ls' := [(0, .ref (a0 0)), (2, .int (0 : Int32)), (3, .int (0 : Int32))]) rfl ?_
    exact cfX5_walled_L23 C hn FU _ _ _ h
set_option maxRecDepth 100000 in
set_option maxHeartbeats 400000 in
theorem cfX5_stirred_j43 {E : VE} (C : Ctx E cX5_stirred RX5 7 (some .int)) (hn : E.nL = 3) {a0 : Nat → Nat} {S0 : MT} {v1 : Int32} {v2 : Int32} {out : Int32} {k4 : Int32 → Int32 → Option (Int32)} (hk4 : ∀ (v1 : Int32) (v2 : Int32), k4 v1 v2 = some out → V E (QR E (some (.int out)) (wdM E.G a0 S0)) (wdM E.G a0 S0) 4 [(0, .ref (a0 0)), (1, .int v1), (2, .int v2)] []) (h : fX5_stirred_j43 k4 S0 v1 v2 = some out) : V E (QR E (some (.int out)) (wdM E.G a0 S0)) (wdM E.G a0 S0) 43 [(0, .ref (a0 0)), (1, .int v1), (2, .int v2)] [] := by
  unfold fX5_stirred_j43 at h
  refine V_pb C hn [(.iinc 2 1, 3)] (pc' := 46) (ls' := [(0, .ref (a0 0)), (1, .int v1), (2, .int (v2 + (1 : Int32)))]) (st' := []) (decB_ok (by decide +kernel)) rfl rfl ?_
  refine V_goto C (off := -42) (tgt := 4) (by decide +kernel) (by decide) ?_
  refine V_sub (ls' := [(0, .ref (a0 0)), (1, .int v1), (2, .int (v2 + (1 : Int32)))]) rfl ?_
  exact hk4 _ _ h
set_option maxRecDepth 100000 in
set_option maxHeartbeats 400000 in
theorem cfX5_stirred_L4 {E : VE} (C : Ctx E cX5_stirred RX5 7 (some .int)) (hn : E.nL = 3) {a0 : Nat → Nat} {S0 : MT} {out : Int32} : ∀ (n : Nat) (v1 : Int32) (v2 : Int32), fX5_stirred_L4 S0 n v1 v2 = some out → V E (QR E (some (.int out)) (wdM E.G a0 S0)) (wdM E.G a0 S0) 4 [(0, .ref (a0 0)), (1, .int v1), (2, .int v2)] [] := by
  intro n
  induction n with
  | zero =>
    intro v1 v2 h
    cases h
  | succ n ih =>
    intro v1 v2 h
    unfold fX5_stirred_L4 at h
    refine V_pb C hn [(.iload_n 2, 1), (.aload_n 0, 1)] (pc' := 6) (ls' := [(0, .ref (a0 0)), (1, .int v1), (2, .int v2)]) (st' := [.ref (a0 0), .int v2]) (decB_ok (by decide +kernel)) rfl rfl ?_
    refine V_get C (v := .int (m_motes S0)) (by decide +kernel) 0 1 fk_RX5_60 rfl rfl ?_
    refine V_ic_ge C (off := 40) (tgt := 49) (by decide +kernel) (by decide) h (fun _ h => ?_) (fun _ h => ?_)
    · refine V_pb C hn [(.iload_n 1, 1)] (pc' := 50) (ls' := [(0, .ref (a0 0)), (1, .int v1), (2, .int v2)]) (st' := [.int v1]) (decB_ok (by decide +kernel)) rfl rfl ?_
      have h := Option.some.inj h
      subst h
      exact V_iret C (by decide +kernel) rfl
    · refine V_pb C hn [(.aload_n 0, 1), (.aload_n 0, 1)] (pc' := 14) (ls' := [(0, .ref (a0 0)), (1, .int v1), (2, .int v2)]) (st' := [.ref (a0 0), .ref (a0 0)]) (decB_ok (by decide +kernel)) rfl rfl ?_
      refine V_get C (v := .ref (a0 1)) (by decide +kernel) 0 2 fk_RX5_7 rfl rfl ?_
      refine V_pb C hn [(.iload_n 2, 1)] (pc' := 18) (ls' := [(0, .ref (a0 0)), (1, .int v1), (2, .int v2)]) (st' := [.int v2, .ref (a0 1), .ref (a0 0)]) (decB_ok (by decide +kernel)) rfl rfl ?_
      refine V_iald C (f := (m_kind S0)) (by decide +kernel) 1 rfl h (fun h => ?_)
      refine V_pb C hn [(.aload_n 0, 1)] (pc' := 20) (ls' := [(0, .ref (a0 0)), (1, .int v1), (2, .int v2)]) (st' := [.ref (a0 0), .int ((m_kind S0) (ix v2)), .ref (a0 0)]) (decB_ok (by decide +kernel)) rfl rfl ?_
      refine V_get C (v := .ref (a0 3)) (by decide +kernel) 0 4 fk_RX5_16 rfl rfl ?_
      refine V_pb C hn [(.iload_n 2, 1)] (pc' := 24) (ls' := [(0, .ref (a0 0)), (1, .int v1), (2, .int v2)]) (st' := [.int v2, .ref (a0 3), .int ((m_kind S0) (ix v2)), .ref (a0 0)]) (decB_ok (by decide +kernel)) rfl rfl ?_
      refine V_iald C (f := (m_cell S0)) (by decide +kernel) 3 rfl h (fun h => ?_)
      obtain ⟨q1, h2, h⟩ := bnd h
      refine V_callV0 C (As := [.int ((m_kind S0) (ix v2)), .int ((m_cell S0) (ix v2))]) (rest := []) (by decide +kernel) ok_yX5_goes mk_RX5_98 (cfX5_goes (l := E.l) (G := E.G) a0 h2) (q0 := 0) rfl rfl rfl rfl rfl rfl (Nat.le_of_ble_eq_true rfl) (Nat.le_of_ble_eq_true rfl) (Nat.le_of_ble_eq_true rfl) ?_
      show V E _ (wdM E.G a0 S0) 28 [(0, .ref (a0 0)), (1, .int v1), (2, .int v2)] [.int q1]
      refine V_pb C hn [(.aload_n 0, 1)] (pc' := 29) (ls' := [(0, .ref (a0 0)), (1, .int v1), (2, .int v2)]) (st' := [.ref (a0 0), .int q1]) (decB_ok (by decide +kernel)) rfl rfl ?_
      refine V_get C (v := .ref (a0 3)) (by decide +kernel) 0 4 fk_RX5_16 rfl rfl ?_
      refine V_pb C hn [(.iload_n 2, 1)] (pc' := 33) (ls' := [(0, .ref (a0 0)), (1, .int v1), (2, .int v2)]) (st' := [.int v2, .ref (a0 3), .int q1]) (decB_ok (by decide +kernel)) rfl rfl ?_
      refine V_iald C (f := (m_cell S0)) (by decide +kernel) 3 rfl h (fun h => ?_)
      refine V_ic_eq C (off := 9) (tgt := 43) (by decide +kernel) (by decide) h (fun _ h => ?_) (fun _ h => ?_)
      · refine V_sub (ls' := [(0, .ref (a0 0)), (1, .int v1), (2, .int v2)]) rfl ?_
        exact cfX5_stirred_j43 C hn (k4 := (fun v1 v2 => fX5_stirred_L4 S0 n v1 v2)) (fun v1 v2 h => ih v1 v2 h) h
      · refine V_pb C hn [(.iload_n 1, 1), (.iconst 1, 1), (.iload_n 2, 1), (.ishl, 1), (.ior, 1), (.istore_n 1, 1)] (pc' := 43) (ls' := [(0, .ref (a0 0)), (1, .int (v1 ||| (jshl (1 : Int32) v2))), (2, .int v2)]) (st' := []) (decB_ok (by decide +kernel)) rfl rfl ?_
        refine V_sub (ls' := [(0, .ref (a0 0)), (1, .int (v1 ||| (jshl (1 : Int32) v2))), (2, .int v2)]) rfl ?_
        exact cfX5_stirred_j43 C hn (k4 := (fun v1 v2 => fX5_stirred_L4 S0 n v1 v2)) (fun v1 v2 h => ih v1 v2 h) h
set_option maxRecDepth 100000 in
set_option maxHeartbeats 400000 in
theorem cfX5_stirred {l : Launch} {G : GG} (a0 : Nat → Nat) {S0 : MT} {out : Int32} (h : fX5_stirred S0 = some out) : Con l G 7 yX5_stirred cX5_stirred 3 (some .int) [.ref (a0 0)] (wdM G a0 S0) (some (.int out)) (wdM G a0 S0) := by
  refine Con_of (by decide +kernel) (Nat.le_of_ble_eq_true rfl) (fun E hl hG hn C => ?_)
  subst hl
  subst hG
  have C : Ctx E cX5_stirred RX5 7 (some .int) := C
  show V E _ _ 0 [(0, .ref (a0 0))] []
  unfold fX5_stirred at h
  refine V_pb C hn [(.iconst 0, 1), (.istore_n 1, 1), (.iconst 0, 1), (.istore_n 2, 1)] (pc' := 4) (ls' := [(0, .ref (a0 0)), (1, .int (0 : Int32)), (2, .int (0 : Int32))]) (st' := []) (decB_ok (by decide +kernel)) rfl rfl ?_
  refine V_sub (ls' := [(0, .ref (a0 0)), (1, .int (0 : Int32)), (2, .int (0 : Int32))]) rfl ?_
  exact cfX5_stirred_L4 C hn FU _ _ h
set_option maxRecDepth 100000 in
set_option maxHeartbeats 400000 in
theorem cfX5_ofKind_j41 {E : VE} (C : Ctx E cX5_ofKind RX5 1 (some .int)) (hn : E.nL = 4) {a0 : Nat → Nat} {p1 : Int32} {v2 : Int32} {v3 : Int32} {S0 : MT} {out : Int32 × MT} {k20 : Int32 → Int32 → MT → Option (Int32 × MT)} (hk20 : ∀ (v2 : Int32) (v3 : Int32) (S0 : MT), k20 v2 v3 S0 = some out → V E (QR E (some (.int out.1)) (wdM E.G a0 out.2)) (wdM E.G a0 S0) 20 [(0, .ref (a0 0)), (1, .int p1), (2, .int v2), (3, .int v3)] []) (h : fX5_ofKind_j41 k20 p1 v2 v3 S0 = some out) : V E (QR E (some (.int out.1)) (wdM E.G a0 out.2)) (wdM E.G a0 S0) 41 [(0, .ref (a0 0)), (1, .int p1), (2, .int v2), (3, .int v3)] [] := by
  unfold fX5_ofKind_j41 at h
  refine V_pb C hn [(.iinc 3 1, 3)] (pc' := 44) (ls' := [(0, .ref (a0 0)), (1, .int p1), (2, .int v2), (3, .int (v3 + (1 : Int32)))]) (st' := []) (decB_ok (by decide +kernel)) rfl rfl ?_
  refine V_goto C (off := -24) (tgt := 20) (by decide +kernel) (by decide) ?_
  refine V_sub (ls' := [(0, .ref (a0 0)), (1, .int p1), (2, .int v2), (3, .int (v3 + (1 : Int32)))]) rfl ?_
  exact hk20 _ _ _ h
set_option maxRecDepth 100000 in
set_option maxHeartbeats 400000 in
theorem cfX5_ofKind_L20 {E : VE} (C : Ctx E cX5_ofKind RX5 1 (some .int)) (hn : E.nL = 4) {a0 : Nat → Nat} {p1 : Int32} {out : Int32 × MT} : ∀ (n : Nat) (v2 : Int32) (v3 : Int32) (S0 : MT), fX5_ofKind_L20 p1 n v2 v3 S0 = some out → V E (QR E (some (.int out.1)) (wdM E.G a0 out.2)) (wdM E.G a0 S0) 20 [(0, .ref (a0 0)), (1, .int p1), (2, .int v2), (3, .int v3)] [] := by
  intro n
  induction n with
  | zero =>
    intro v2 v3 S0 h
    cases h
  | succ n ih =>
    intro v2 v3 S0 h
    unfold fX5_ofKind_L20 at h
    refine V_pb C hn [(.iload_n 3, 1), (.aload_n 0, 1)] (pc' := 22) (ls' := [(0, .ref (a0 0)), (1, .int p1), (2, .int v2), (3, .int v3)]) (st' := [.ref (a0 0), .int v3]) (decB_ok (by decide +kernel)) rfl rfl ?_
    refine V_get C (v := .int (m_motes S0)) (by decide +kernel) 0 1 fk_RX5_60 rfl rfl ?_
    refine V_ic_ge C (off := 22) (tgt := 47) (by decide +kernel) (by decide) h (fun _ h => ?_) (fun _ h => ?_)
    · refine V_pb C hn [(.iload_n 2, 1)] (pc' := 48) (ls' := [(0, .ref (a0 0)), (1, .int p1), (2, .int v2), (3, .int v3)]) (st' := [.int v2]) (decB_ok (by decide +kernel)) rfl rfl ?_
      have h := Option.some.inj h
      subst h
      exact V_iret C (by decide +kernel) rfl
    · refine V_pb C hn [(.aload_n 0, 1)] (pc' := 29) (ls' := [(0, .ref (a0 0)), (1, .int p1), (2, .int v2), (3, .int v3)]) (st' := [.ref (a0 0)]) (decB_ok (by decide +kernel)) rfl rfl ?_
      refine V_get C (v := .ref (a0 1)) (by decide +kernel) 0 2 fk_RX5_7 rfl rfl ?_
      refine V_pb C hn [(.iload_n 3, 1)] (pc' := 33) (ls' := [(0, .ref (a0 0)), (1, .int p1), (2, .int v2), (3, .int v3)]) (st' := [.int v3, .ref (a0 1)]) (decB_ok (by decide +kernel)) rfl rfl ?_
      refine V_iald C (f := (m_kind S0)) (by decide +kernel) 1 rfl h (fun h => ?_)
      refine V_pb C hn [(.iload_n 1, 1)] (pc' := 35) (ls' := [(0, .ref (a0 0)), (1, .int p1), (2, .int v2), (3, .int v3)]) (st' := [.int p1, .int ((m_kind S0) (ix v3))]) (decB_ok (by decide +kernel)) rfl rfl ?_
      refine V_ic_ne C (off := 6) (tgt := 41) (by decide +kernel) (by decide) h (fun _ h => ?_) (fun _ h => ?_)
      · refine V_pb C hn [(.iinc 2 1, 3)] (pc' := 41) (ls' := [(0, .ref (a0 0)), (1, .int p1), (2, .int (v2 + (1 : Int32))), (3, .int v3)]) (st' := []) (decB_ok (by decide +kernel)) rfl rfl ?_
        refine V_sub (ls' := [(0, .ref (a0 0)), (1, .int p1), (2, .int (v2 + (1 : Int32))), (3, .int v3)]) rfl ?_
        exact cfX5_ofKind_j41 C hn (k20 := (fun v2 v3 S0 => fX5_ofKind_L20 p1 n v2 v3 S0)) (fun v2 v3 S0 h => ih v2 v3 S0 h) h
      · refine V_sub (ls' := [(0, .ref (a0 0)), (1, .int p1), (2, .int v2), (3, .int v3)]) rfl ?_
        exact cfX5_ofKind_j41 C hn (k20 := (fun v2 v3 S0 => fX5_ofKind_L20 p1 n v2 v3 S0)) (fun v2 v3 S0 h => ih v2 v3 S0 h) h
set_option maxRecDepth 100000 in
set_option maxHeartbeats 400000 in
theorem cfX5_ofKind {l : Launch} {G : GG} (a0 : Nat → Nat) {p1 : Int32} {S0 : MT} {out : Int32 × MT} (h : fX5_ofKind p1 S0 = some out) : Con l G 1 yX5_ofKind cX5_ofKind 4 (some .int) [.ref (a0 0), .int p1] (wdM G a0 S0) (some (.int out.1)) (wdM G a0 out.2) := by
  refine Con_of (by decide +kernel) (Nat.le_of_ble_eq_true rfl) (fun E hl hG hn C => ?_)
  subst hl
  subst hG
  have C : Ctx E cX5_ofKind RX5 1 (some .int) := C
  show V E _ _ 0 [(0, .ref (a0 0)), (1, .int p1)] []
  unfold fX5_ofKind at h
  refine V_pb C hn [(.iload_n 1, 1), (.iconst 0, 1), (.iconst 5, 1)] (pc' := 3) (ls' := [(0, .ref (a0 0)), (1, .int p1)]) (st' := [.int (5 : Int32), .int (0 : Int32), .int p1]) (decB_ok (by decide +kernel)) rfl rfl ?_
  obtain ⟨q1, h2, h⟩ := bnd h
  refine V_callSp C (As := [.int p1, .int (0 : Int32), .int (5 : Int32)]) (rest := []) (by decide +kernel) ok_yX5_within mk_RX5_63 (cfX5_within (l := E.l) (G := E.G) h2) [] rfl rfl rfl rfl (Nat.le_of_ble_eq_true rfl) (Nat.le_of_ble_eq_true rfl) (Nat.le_of_ble_eq_true rfl) ?_
  show V E _ (wdM E.G a0 S0) 6 [(0, .ref (a0 0)), (1, .int p1)] [.int q1]
  refine V_if_ne C (off := 10) (tgt := 16) (by decide +kernel) (by decide) h (fun _ h => ?_) (fun _ h => ?_)
  · refine V_pb C hn [(.aload_n 0, 1), (.bipush (-2), 2)] (pc' := 12) (ls' := [(0, .ref (a0 0)), (1, .int p1)]) (st' := [.int (cI (-2)), .ref (a0 0)]) (decB_ok (by decide +kernel)) rfl rfl ?_
    obtain ⟨q3, h4, h⟩ := bnd h
    refine V_callV0 C (As := [.int (cI (-2))]) (rest := []) (by decide +kernel) ok_yX5_no mk_RX5_77 (cfX5_no (l := E.l) (G := E.G) a0 h4) (q0 := 0) rfl rfl rfl rfl rfl rfl (Nat.le_of_ble_eq_true rfl) (Nat.le_of_ble_eq_true rfl) (Nat.le_of_ble_eq_true rfl) ?_
    show V E _ (wdM E.G a0 q3.2) 15 [(0, .ref (a0 0)), (1, .int p1)] [.int q3.1]
    have h := Option.some.inj h
    subst h
    exact V_iret C (by decide +kernel) rfl
  · refine V_pb C hn [(.iconst 0, 1), (.istore_n 2, 1), (.iconst 0, 1), (.istore_n 3, 1)] (pc' := 20) (ls' := [(0, .ref (a0 0)), (1, .int p1), (2, .int (0 : Int32)), (3, .int (0 : Int32))]) (st' := []) (decB_ok (by decide +kernel)) rfl rfl ?_
    refine V_sub (ls' := [(0, .ref (a0 0)), (1, .int p1), (2, .int (0 : Int32)), (3, .int (0 : Int32))]) rfl ?_
    exact cfX5_ofKind_L20 C hn FU _ _ _ h
set_option maxRecDepth 100000 in
set_option maxHeartbeats 400000 in
theorem cfX5_wrong_L2 {E : VE} (C : Ctx E cX5_wrong RX5 1 (some .int)) (hn : E.nL = 4) {a0 : Nat → Nat} {p1 : Int32} {p2 : Int32} {S0 : MT} {out : Int32} : ∀ (n : Nat) (v3 : Int32), fX5_wrong_L2 p1 p2 S0 n v3 = some out → V E (QR E (some (.int out)) (wdM E.G a0 S0)) (wdM E.G a0 S0) 2 [(0, .ref (a0 0)), (1, .int p1), (2, .int p2), (3, .int v3)] [] := by
  intro n
  induction n with
  | zero =>
    intro v3 h
    cases h
  | succ n ih =>
    intro v3 h
    unfold fX5_wrong_L2 at h
    refine V_pb C hn [(.iload_n 3, 1), (.iload_n 2, 1)] (pc' := 4) (ls' := [(0, .ref (a0 0)), (1, .int p1), (2, .int p2), (3, .int v3)]) (st' := [.int p2, .int v3]) (decB_ok (by decide +kernel)) rfl rfl ?_
    refine V_ic_ge C (off := 23) (tgt := 27) (by decide +kernel) (by decide) h (fun _ h => ?_) (fun _ h => ?_)
    · refine V_pb C hn [(.iconst (-1), 1)] (pc' := 28) (ls' := [(0, .ref (a0 0)), (1, .int p1), (2, .int p2), (3, .int v3)]) (st' := [.int (cI (-1))]) (decB_ok (by decide +kernel)) rfl rfl ?_
      have h := Option.some.inj h
      subst h
      exact V_iret C (by decide +kernel) rfl
    · refine V_pb C hn [(.aload_n 0, 1), (.iload_n 1, 1), (.iload_n 3, 1)] (pc' := 10) (ls' := [(0, .ref (a0 0)), (1, .int p1), (2, .int p2), (3, .int v3)]) (st' := [.int v3, .int p1, .ref (a0 0)]) (decB_ok (by decide +kernel)) rfl rfl ?_
      obtain ⟨q1, h2, h⟩ := bnd h
      refine V_callV0 C (As := [.int p1, .int v3]) (rest := []) (by decide +kernel) ok_yX5_toldAt mk_RX5_271 (cfX5_toldAt (l := E.l) (G := E.G) a0 h2) (q0 := 0) rfl rfl rfl rfl rfl rfl (Nat.le_of_ble_eq_true rfl) (Nat.le_of_ble_eq_true rfl) (Nat.le_of_ble_eq_true rfl) ?_
      show V E _ (wdM E.G a0 S0) 13 [(0, .ref (a0 0)), (1, .int p1), (2, .int p2), (3, .int v3)] [.long q1]
      obtain ⟨q3, h4, h⟩ := bnd h
      refine V_callSp C (As := [.long q1]) (rest := []) (by decide +kernel) ok_yX5_isSetting mk_RX5_258 (cfX5_isSetting (l := E.l) (G := E.G) h4) [] rfl rfl rfl rfl (Nat.le_of_ble_eq_true rfl) (Nat.le_of_ble_eq_true rfl) (Nat.le_of_ble_eq_true rfl) ?_
      show V E _ (wdM E.G a0 S0) 16 [(0, .ref (a0 0)), (1, .int p1), (2, .int p2), (3, .int v3)] [.int q3]
      refine V_if_ne C (off := 5) (tgt := 21) (by decide +kernel) (by decide) h (fun _ h => ?_) (fun _ h => ?_)
      · refine V_pb C hn [(.iload_n 3, 1)] (pc' := 20) (ls' := [(0, .ref (a0 0)), (1, .int p1), (2, .int p2), (3, .int v3)]) (st' := [.int v3]) (decB_ok (by decide +kernel)) rfl rfl ?_
        have h := Option.some.inj h
        subst h
        exact V_iret C (by decide +kernel) rfl
      · refine V_pb C hn [(.iinc 3 1, 3)] (pc' := 24) (ls' := [(0, .ref (a0 0)), (1, .int p1), (2, .int p2), (3, .int (v3 + (1 : Int32)))]) (st' := []) (decB_ok (by decide +kernel)) rfl rfl ?_
        refine V_goto C (off := -22) (tgt := 2) (by decide +kernel) (by decide) ?_
        refine V_sub (ls' := [(0, .ref (a0 0)), (1, .int p1), (2, .int p2), (3, .int (v3 + (1 : Int32)))]) rfl ?_
        exact ih _ h
set_option maxRecDepth 100000 in
set_option maxHeartbeats 400000 in
theorem cfX5_wrong {l : Launch} {G : GG} (a0 : Nat → Nat) {p1 : Int32} {p2 : Int32} {S0 : MT} {out : Int32} (h : fX5_wrong p1 p2 S0 = some out) : Con l G 1 yX5_wrong cX5_wrong 4 (some .int) [.ref (a0 0), .int p1, .int p2] (wdM G a0 S0) (some (.int out)) (wdM G a0 S0) := by
  refine Con_of (by decide +kernel) (Nat.le_of_ble_eq_true rfl) (fun E hl hG hn C => ?_)
  subst hl
  subst hG
  have C : Ctx E cX5_wrong RX5 1 (some .int) := C
  show V E _ _ 0 [(0, .ref (a0 0)), (1, .int p1), (2, .int p2)] []
  unfold fX5_wrong at h
  refine V_pb C hn [(.iconst 0, 1), (.istore_n 3, 1)] (pc' := 2) (ls' := [(0, .ref (a0 0)), (1, .int p1), (2, .int p2), (3, .int (0 : Int32))]) (st' := []) (decB_ok (by decide +kernel)) rfl rfl ?_
  refine V_sub (ls' := [(0, .ref (a0 0)), (1, .int p1), (2, .int p2), (3, .int (0 : Int32))]) rfl ?_
  exact cfX5_wrong_L2 C hn FU _ h
set_option maxRecDepth 100000 in
set_option maxHeartbeats 400000 in
theorem cfX5_judge_j17 {E : VE} (C : Ctx E cX5_judge RX5 3 (some .int)) (hn : E.nL = 4) {a0 : Nat → Nat} {p1 : Int32} {p2 : Int32} {S0 : MT} {out : Int32 × MT} (h : fX5_judge_j17 p1 p2 S0 = some out) : V E (QR E (some (.int out.1)) (wdM E.G a0 out.2)) (wdM E.G a0 S0) 17 [(0, .ref (a0 0))] [] := by
  unfold fX5_judge_j17 at h
  refine V_pb C hn [(.aload_n 0, 1), (.bipush (-2), 2)] (pc' := 20) (ls' := [(0, .ref (a0 0))]) (st' := [.int (cI (-2)), .ref (a0 0)]) (decB_ok (by decide +kernel)) rfl rfl ?_
  obtain ⟨q3, h4, h⟩ := bnd h
  refine V_callV0 C (As := [.int (cI (-2))]) (rest := []) (by decide +kernel) ok_yX5_no mk_RX5_77 (cfX5_no (l := E.l) (G := E.G) a0 h4) (q0 := 0) rfl rfl rfl rfl rfl rfl (Nat.le_of_ble_eq_true rfl) (Nat.le_of_ble_eq_true rfl) (Nat.le_of_ble_eq_true rfl) ?_
  show V E _ (wdM E.G a0 q3.2) 23 [(0, .ref (a0 0))] [.int q3.1]
  have h := Option.some.inj h
  subst h
  exact V_iret C (by decide +kernel) rfl
set_option maxRecDepth 100000 in
set_option maxHeartbeats 400000 in
theorem cfX5_judge {l : Launch} {G : GG} (a0 : Nat → Nat) {p1 : Int32} {p2 : Int32} {S0 : MT} {out : Int32 × MT} (h : fX5_judge p1 p2 S0 = some out) : Con l G 3 yX5_judge cX5_judge 4 (some .int) [.ref (a0 0), .int p1, .int p2] (wdM G a0 S0) (some (.int out.1)) (wdM G a0 out.2) := by
  refine Con_of (by decide +kernel) (Nat.le_of_ble_eq_true rfl) (fun E hl hG hn C => ?_)
  subst hl
  subst hG
  have C : Ctx E cX5_judge RX5 3 (some .int) := C
  show V E _ _ 0 [(0, .ref (a0 0)), (1, .int p1), (2, .int p2)] []
  unfold fX5_judge at h
  refine V_pb C hn [(.iload_n 1, 1)] (pc' := 1) (ls' := [(0, .ref (a0 0)), (1, .int p1), (2, .int p2)]) (st' := [.int p1]) (decB_ok (by decide +kernel)) rfl rfl ?_
  obtain ⟨q1, h2, h⟩ := bnd h
  refine V_callSp C (As := [.int p1]) (rest := []) (by decide +kernel) ok_yX5_isShelf mk_RX5_73 (cfX5_isShelf (l := E.l) (G := E.G) h2) [] rfl rfl rfl rfl (Nat.le_of_ble_eq_true rfl) (Nat.le_of_ble_eq_true rfl) (Nat.le_of_ble_eq_true rfl) ?_
  show V E _ (wdM E.G a0 S0) 4 [(0, .ref (a0 0)), (1, .int p1), (2, .int p2)] [.int q1]
  refine V_if_eq C (off := 13) (tgt := 17) (by decide +kernel) (by decide) h (fun _ h => ?_) (fun _ h => ?_)
  · refine V_sub (ls' := [(0, .ref (a0 0))]) rfl ?_
    exact cfX5_judge_j17 C hn h
  · refine V_pb C hn [(.iload_n 2, 1), (.iconst 0, 1), (.bipush 40, 2)] (pc' := 11) (ls' := [(0, .ref (a0 0)), (1, .int p1), (2, .int p2)]) (st' := [.int (40 : Int32), .int (0 : Int32), .int p2]) (decB_ok (by decide +kernel)) rfl rfl ?_
    obtain ⟨q5, h6, h⟩ := bnd h
    refine V_callSp C (As := [.int p2, .int (0 : Int32), .int (40 : Int32)]) (rest := []) (by decide +kernel) ok_yX5_within mk_RX5_63 (cfX5_within (l := E.l) (G := E.G) h6) [] rfl rfl rfl rfl (Nat.le_of_ble_eq_true rfl) (Nat.le_of_ble_eq_true rfl) (Nat.le_of_ble_eq_true rfl) ?_
    show V E _ (wdM E.G a0 S0) 14 [(0, .ref (a0 0)), (1, .int p1), (2, .int p2)] [.int q5]
    refine V_if_ne C (off := 10) (tgt := 24) (by decide +kernel) (by decide) h (fun _ h => ?_) (fun _ h => ?_)
    · refine V_sub (ls' := [(0, .ref (a0 0))]) rfl ?_
      exact cfX5_judge_j17 C hn h
    · refine V_pb C hn [(.aload_n 0, 1), (.iload_n 1, 1), (.iload_n 2, 1)] (pc' := 27) (ls' := [(0, .ref (a0 0)), (1, .int p1), (2, .int p2)]) (st' := [.int p2, .int p1, .ref (a0 0)]) (decB_ok (by decide +kernel)) rfl rfl ?_
      obtain ⟨q7, h8, h⟩ := bnd h
      refine V_callV0 C (As := [.int p1, .int p2]) (rest := []) (by decide +kernel) ok_yX5_noTold mk_RX5_275 (cfX5_noTold (l := E.l) (G := E.G) a0 h8) (q0 := 0) rfl rfl rfl rfl rfl rfl (Nat.le_of_ble_eq_true rfl) (Nat.le_of_ble_eq_true rfl) (Nat.le_of_ble_eq_true rfl) ?_
      show V E _ (wdM E.G a0 S0) 30 [(0, .ref (a0 0)), (1, .int p1), (2, .int p2)] [.int q7]
      refine V_pb C hn [(.istore_n 3, 1), (.iload_n 3, 1)] (pc' := 32) (ls' := [(0, .ref (a0 0)), (1, .int p1), (2, .int p2), (3, .int q7)]) (st' := [.int q7]) (decB_ok (by decide +kernel)) rfl rfl ?_
      refine V_if_ge C (off := 11) (tgt := 43) (by decide +kernel) (by decide) h (fun _ h => ?_) (fun _ h => ?_)
      · refine V_pb C hn [(.aload_n 0, 1), (.iload_n 1, 1), (.iload_n 2, 1)] (pc' := 46) (ls' := [(0, .ref (a0 0)), (1, .int p1), (2, .int p2), (3, .int q7)]) (st' := [.int p2, .int p1, .ref (a0 0)]) (decB_ok (by decide +kernel)) rfl rfl ?_
        obtain ⟨q9, h10, h⟩ := bnd h
        refine V_callV0 C (As := [.int p1, .int p2]) (rest := []) (by decide +kernel) ok_yX5_wrong mk_RX5_339 (cfX5_wrong (l := E.l) (G := E.G) a0 h10) (q0 := 0) rfl rfl rfl rfl rfl rfl (Nat.le_of_ble_eq_true rfl) (Nat.le_of_ble_eq_true rfl) (Nat.le_of_ble_eq_true rfl) ?_
        show V E _ (wdM E.G a0 S0) 49 [(0, .ref (a0 0)), (1, .int p1), (2, .int p2), (3, .int q7)] [.int q9]
        have h := Option.some.inj h
        subst h
        exact V_iret C (by decide +kernel) rfl
      · refine V_pb C hn [(.aload_n 0, 1), (.iload_n 3, 1)] (pc' := 37) (ls' := [(0, .ref (a0 0)), (1, .int p1), (2, .int p2), (3, .int q7)]) (st' := [.int q7, .ref (a0 0)]) (decB_ok (by decide +kernel)) rfl rfl ?_
        obtain ⟨q11, h12, h⟩ := bnd h
        refine V_callV0 C (As := [.int q7]) (rest := []) (by decide +kernel) ok_yX5_no mk_RX5_77 (cfX5_no (l := E.l) (G := E.G) a0 h12) (q0 := 0) rfl rfl rfl rfl rfl rfl (Nat.le_of_ble_eq_true rfl) (Nat.le_of_ble_eq_true rfl) (Nat.le_of_ble_eq_true rfl) ?_
        show V E _ (wdM E.G a0 q11.2) 40 [(0, .ref (a0 0)), (1, .int p1), (2, .int p2), (3, .int q7)] [.int q11.1]
        refine V_goto C (off := 9) (tgt := 49) (by decide +kernel) (by decide) ?_
        have h := Option.some.inj h
        subst h
        exact V_iret C (by decide +kernel) rfl
set_option maxRecDepth 100000 in
set_option maxHeartbeats 400000 in
theorem cfX5_noSession {l : Launch} {G : GG} (a0 : Nat → Nat) {p1 : Int32} {p2 : Int32} {S0 : MT} {out : Int32} (h : fX5_noSession p1 p2 S0 = some out) : Con l G 3 yX5_noSession cX5_noSession 4 (some .int) [.ref (a0 0), .int p1, .int p2] (wdM G a0 S0) (some (.int out)) (wdM G a0 S0) := by
  refine Con_of (by decide +kernel) (Nat.le_of_ble_eq_true rfl) (fun E hl hG hn C => ?_)
  subst hl
  subst hG
  have C : Ctx E cX5_noSession RX5 3 (some .int) := C
  show V E _ _ 0 [(0, .ref (a0 0)), (1, .int p1), (2, .int p2)] []
  unfold fX5_noSession at h
  refine V_pb C hn [(.aload_n 0, 1), (.iload_n 1, 1), (.iload_n 2, 1)] (pc' := 3) (ls' := [(0, .ref (a0 0)), (1, .int p1), (2, .int p2)]) (st' := [.int p2, .int p1, .ref (a0 0)]) (decB_ok (by decide +kernel)) rfl rfl ?_
  obtain ⟨q1, h2, h⟩ := bnd h
  refine V_callV0 C (As := [.int p1, .int p2]) (rest := []) (by decide +kernel) ok_yX5_noTold mk_RX5_275 (cfX5_noTold (l := E.l) (G := E.G) a0 h2) (q0 := 0) rfl rfl rfl rfl rfl rfl (Nat.le_of_ble_eq_true rfl) (Nat.le_of_ble_eq_true rfl) (Nat.le_of_ble_eq_true rfl) ?_
  show V E _ (wdM E.G a0 S0) 6 [(0, .ref (a0 0)), (1, .int p1), (2, .int p2)] [.int q1]
  refine V_pb C hn [(.istore_n 3, 1), (.iload_n 3, 1)] (pc' := 8) (ls' := [(0, .ref (a0 0)), (1, .int p1), (2, .int p2), (3, .int q1)]) (st' := [.int q1]) (decB_ok (by decide +kernel)) rfl rfl ?_
  refine V_if_ge C (off := 7) (tgt := 15) (by decide +kernel) (by decide) h (fun _ h => ?_) (fun _ h => ?_)
  · refine V_pb C hn [(.aload_n 0, 1), (.iload_n 1, 1), (.iload_n 2, 1)] (pc' := 18) (ls' := [(0, .ref (a0 0)), (1, .int p1), (2, .int p2), (3, .int q1)]) (st' := [.int p2, .int p1, .ref (a0 0)]) (decB_ok (by decide +kernel)) rfl rfl ?_
    obtain ⟨q3, h4, h⟩ := bnd h
    refine V_callV0 C (As := [.int p1, .int p2]) (rest := []) (by decide +kernel) ok_yX5_wrong mk_RX5_339 (cfX5_wrong (l := E.l) (G := E.G) a0 h4) (q0 := 0) rfl rfl rfl rfl rfl rfl (Nat.le_of_ble_eq_true rfl) (Nat.le_of_ble_eq_true rfl) (Nat.le_of_ble_eq_true rfl) ?_
    show V E _ (wdM E.G a0 S0) 21 [(0, .ref (a0 0)), (1, .int p1), (2, .int p2), (3, .int q1)] [.int q3]
    refine V_pb C hn [(.iconst (-1), 1)] (pc' := 22) (ls' := [(0, .ref (a0 0)), (1, .int p1), (2, .int p2), (3, .int q1)]) (st' := [.int (cI (-1)), .int q3]) (decB_ok (by decide +kernel)) rfl rfl ?_
    refine V_ic_ne C (off := 7) (tgt := 29) (by decide +kernel) (by decide) h (fun _ h => ?_) (fun _ h => ?_)
    · refine V_pb C hn [(.iconst 0, 1)] (pc' := 26) (ls' := [(0, .ref (a0 0)), (1, .int p1), (2, .int p2), (3, .int q1)]) (st' := [.int (0 : Int32)]) (decB_ok (by decide +kernel)) rfl rfl ?_
      refine V_goto C (off := 5) (tgt := 31) (by decide +kernel) (by decide) ?_
      have h := Option.some.inj h
      subst h
      exact V_iret C (by decide +kernel) rfl
    · refine V_pb C hn [(.bipush (-5), 2)] (pc' := 31) (ls' := [(0, .ref (a0 0)), (1, .int p1), (2, .int p2), (3, .int q1)]) (st' := [.int (cI (-5))]) (decB_ok (by decide +kernel)) rfl rfl ?_
      have h := Option.some.inj h
      subst h
      exact V_iret C (by decide +kernel) rfl
  · refine V_pb C hn [(.iload_n 3, 1)] (pc' := 12) (ls' := [(0, .ref (a0 0)), (1, .int p1), (2, .int p2), (3, .int q1)]) (st' := [.int q1]) (decB_ok (by decide +kernel)) rfl rfl ?_
    refine V_goto C (off := 19) (tgt := 31) (by decide +kernel) (by decide) ?_
    have h := Option.some.inj h
    subst h
    exact V_iret C (by decide +kernel) rfl
set_option maxRecDepth 100000 in
set_option maxHeartbeats 400000 in
theorem cfX5_happens_L2 {E : VE} (C : Ctx E cX5_happens RX5 8 none) (hn : E.nL = 4) {a0 : Nat → Nat} {p1 : Int32} {p2 : Int32} {out : MT} : ∀ (n : Nat) (v3 : Int32) (S0 : MT), fX5_happens_L2 p1 p2 n v3 S0 = some out → V E (QR E none (wdM E.G a0 out)) (wdM E.G a0 S0) 2 [(0, .ref (a0 0)), (1, .int p1), (2, .int p2), (3, .int v3)] [] := by
  intro n
  induction n with
  | zero =>
    intro v3 S0 h
    cases h
  | succ n ih =>
    intro v3 S0 h
    unfold fX5_happens_L2 at h
    refine V_pb C hn [(.iload_n 3, 1), (.iload_n 2, 1)] (pc' := 4) (ls' := [(0, .ref (a0 0)), (1, .int p1), (2, .int p2), (3, .int v3)]) (st' := [.int p2, .int v3]) (decB_ok (by decide +kernel)) rfl rfl ?_
    refine V_ic_ge C (off := 24) (tgt := 28) (by decide +kernel) (by decide) h (fun _ h => ?_) (fun _ h => ?_)
    · have h := Option.some.inj h
      subst h
      exact V_vret C (by decide +kernel)
    · refine V_pb C hn [(.aload_n 0, 1), (.aload_n 0, 1), (.iload_n 1, 1), (.iload_n 3, 1)] (pc' := 11) (ls' := [(0, .ref (a0 0)), (1, .int p1), (2, .int p2), (3, .int v3)]) (st' := [.int v3, .int p1, .ref (a0 0), .ref (a0 0)]) (decB_ok (by decide +kernel)) rfl rfl ?_
      obtain ⟨q1, h2, h⟩ := bnd h
      refine V_callV0 C (As := [.int p1, .int v3]) (rest := [.ref (a0 0)]) (by decide +kernel) ok_yX5_toldAt mk_RX5_271 (cfX5_toldAt (l := E.l) (G := E.G) a0 h2) (q0 := 0) rfl rfl rfl rfl rfl rfl (Nat.le_of_ble_eq_true rfl) (Nat.le_of_ble_eq_true rfl) (Nat.le_of_ble_eq_true rfl) ?_
      show V E _ (wdM E.G a0 S0) 14 [(0, .ref (a0 0)), (1, .int p1), (2, .int p2), (3, .int v3)] [.long q1, .ref (a0 0)]
      refine V_pb C hn [(.l2i, 1)] (pc' := 15) (ls' := [(0, .ref (a0 0)), (1, .int p1), (2, .int p2), (3, .int v3)]) (st' := [.int q1.toInt32, .ref (a0 0)]) (decB_ok (by decide +kernel)) rfl rfl ?_
      obtain ⟨q3, h4, h⟩ := bnd h
      refine V_callV0 C (As := [.int q1.toInt32]) (rest := []) (by decide +kernel) ok_yX5_sets mk_RX5_265 (cfX5_sets (l := E.l) (G := E.G) a0 h4) (q0 := 0) rfl rfl rfl rfl rfl rfl (Nat.le_of_ble_eq_true rfl) (Nat.le_of_ble_eq_true rfl) (Nat.le_of_ble_eq_true rfl) ?_
      show V E _ (wdM E.G a0 q3) 18 [(0, .ref (a0 0)), (1, .int p1), (2, .int p2), (3, .int v3)] []
      refine V_pb C hn [(.aload_n 0, 1)] (pc' := 19) (ls' := [(0, .ref (a0 0)), (1, .int p1), (2, .int p2), (3, .int v3)]) (st' := [.ref (a0 0)]) (decB_ok (by decide +kernel)) rfl rfl ?_
      obtain ⟨q5, h6, h⟩ := bnd h
      refine V_callV0 C (As := []) (rest := []) (by decide +kernel) ok_yX5_step mk_RX5_225 (cfX5_step (l := E.l) (G := E.G) a0 h6) (q0 := 0) rfl rfl rfl rfl rfl rfl (Nat.le_of_ble_eq_true rfl) (Nat.le_of_ble_eq_true rfl) (Nat.le_of_ble_eq_true rfl) ?_
      show V E _ (wdM E.G a0 q5) 22 [(0, .ref (a0 0)), (1, .int p1), (2, .int p2), (3, .int v3)] []
      refine V_pb C hn [(.iinc 3 1, 3)] (pc' := 25) (ls' := [(0, .ref (a0 0)), (1, .int p1), (2, .int p2), (3, .int (v3 + (1 : Int32)))]) (st' := []) (decB_ok (by decide +kernel)) rfl rfl ?_
      refine V_goto C (off := -23) (tgt := 2) (by decide +kernel) (by decide) ?_
      refine V_sub (ls' := [(0, .ref (a0 0)), (1, .int p1), (2, .int p2), (3, .int (v3 + (1 : Int32)))]) rfl ?_
      exact ih _ _ h
set_option maxRecDepth 100000 in
set_option maxHeartbeats 400000 in
theorem cfX5_happens {l : Launch} {G : GG} (a0 : Nat → Nat) {p1 : Int32} {p2 : Int32} {S0 : MT} {out : MT} (h : fX5_happens p1 p2 S0 = some out) : Con l G 8 yX5_happens cX5_happens 4 none [.ref (a0 0), .int p1, .int p2] (wdM G a0 S0) none (wdM G a0 out) := by
  refine Con_of (by decide +kernel) (Nat.le_of_ble_eq_true rfl) (fun E hl hG hn C => ?_)
  subst hl
  subst hG
  have C : Ctx E cX5_happens RX5 8 none := C
  show V E _ _ 0 [(0, .ref (a0 0)), (1, .int p1), (2, .int p2)] []
  unfold fX5_happens at h
  refine V_pb C hn [(.iconst 0, 1), (.istore_n 3, 1)] (pc' := 2) (ls' := [(0, .ref (a0 0)), (1, .int p1), (2, .int p2), (3, .int (0 : Int32))]) (st' := []) (decB_ok (by decide +kernel)) rfl rfl ?_
  refine V_sub (ls' := [(0, .ref (a0 0)), (1, .int p1), (2, .int p2), (3, .int (0 : Int32))]) rfl ?_
  exact cfX5_happens_L2 C hn FU _ _ h
set_option maxRecDepth 100000 in
set_option maxHeartbeats 400000 in
theorem cfX5_behind_j37 {E : VE} (C : Ctx E cX5_behind RX5 9 (some .int)) (hn : E.nL = 7) {a0 : Nat → Nat} {p1 : Int32} {p2 : Int32} {p3 : Int32} {S0 : MT} {out : Int32 × MT} (h : fX5_behind_j37 p1 p2 p3 S0 = some out) : V E (QR E (some (.int out.1)) (wdM E.G a0 out.2)) (wdM E.G a0 S0) 37 [(0, .ref (a0 0))] [] := by
  unfold fX5_behind_j37 at h
  refine V_pb C hn [(.aload_n 0, 1), (.bipush (-2), 2)] (pc' := 40) (ls' := [(0, .ref (a0 0))]) (st' := [.int (cI (-2)), .ref (a0 0)]) (decB_ok (by decide +kernel)) rfl rfl ?_
  obtain ⟨q3, h4, h⟩ := bnd h
  refine V_callV0 C (As := [.int (cI (-2))]) (rest := []) (by decide +kernel) ok_yX5_no mk_RX5_77 (cfX5_no (l := E.l) (G := E.G) a0 h4) (q0 := 0) rfl rfl rfl rfl rfl rfl (Nat.le_of_ble_eq_true rfl) (Nat.le_of_ble_eq_true rfl) (Nat.le_of_ble_eq_true rfl) ?_
  show V E _ (wdM E.G a0 q3.2) 43 [(0, .ref (a0 0))] [.int q3.1]
  have h := Option.some.inj h
  subst h
  exact V_iret C (by decide +kernel) rfl
set_option maxRecDepth 100000 in
set_option maxHeartbeats 400000 in
theorem cfX5_behind_j120 {E : VE} (C : Ctx E cX5_behind RX5 9 (some .int)) (hn : E.nL = 7) {a0 : Nat → Nat} {p1 : Int32} {p2 : Int32} {p3 : Int32} {v5 : Int32} {s0 : Int32} {S0 : MT} {out : Int32 × MT} (h : fX5_behind_j120 p1 p2 p3 v5 s0 S0 = some out) : V E (QR E (some (.int out.1)) (wdM E.G a0 out.2)) (wdM E.G a0 S0) 120 [(0, .ref (a0 0)), (5, .int v5)] [.int s0] := by
  unfold fX5_behind_j120 at h
  refine V_pb C hn [(.istore 6, 2), (.aload_n 0, 1)] (pc' := 123) (ls' := [(0, .ref (a0 0)), (5, .int v5), (6, .int s0)]) (st' := [.ref (a0 0)]) (decB_ok (by decide +kernel)) rfl rfl ?_
  obtain ⟨q21, h22, h⟩ := bnd h
  refine V_callV0 C (As := []) (rest := []) (by decide +kernel) ok_yX5_ends mk_RX5_232 (cfX5_ends (l := E.l) (G := E.G) a0 h22) (q0 := 0) rfl rfl rfl rfl rfl rfl (Nat.le_of_ble_eq_true rfl) (Nat.le_of_ble_eq_true rfl) (Nat.le_of_ble_eq_true rfl) ?_
  show V E _ (wdM E.G a0 q21) 126 [(0, .ref (a0 0)), (5, .int v5), (6, .int s0)] []
  refine V_pb C hn [(.aload_n 0, 1), (.iload 5, 2)] (pc' := 129) (ls' := [(0, .ref (a0 0)), (5, .int v5), (6, .int s0)]) (st' := [.int v5, .ref (a0 0)]) (decB_ok (by decide +kernel)) rfl rfl ?_
  obtain ⟨q23, h24, h⟩ := bnd h
  refine V_callV0 C (As := [.int v5]) (rest := []) (by decide +kernel) ok_yX5_sets mk_RX5_265 (cfX5_sets (l := E.l) (G := E.G) a0 h24) (q0 := 0) rfl rfl rfl rfl rfl rfl (Nat.le_of_ble_eq_true rfl) (Nat.le_of_ble_eq_true rfl) (Nat.le_of_ble_eq_true rfl) ?_
  show V E _ (wdM E.G a0 q23) 132 [(0, .ref (a0 0)), (5, .int v5), (6, .int s0)] []
  refine V_pb C hn [(.iload 6, 2)] (pc' := 134) (ls' := [(0, .ref (a0 0)), (5, .int v5), (6, .int s0)]) (st' := [.int s0]) (decB_ok (by decide +kernel)) rfl rfl ?_
  have h := Option.some.inj h
  subst h
  exact V_iret C (by decide +kernel) rfl
set_option maxRecDepth 100000 in
set_option maxHeartbeats 400000 in
theorem cfX5_behind_j44 {E : VE} (C : Ctx E cX5_behind RX5 9 (some .int)) (hn : E.nL = 7) {a0 : Nat → Nat} {p1 : Int32} {p2 : Int32} {p3 : Int32} {S0 : MT} {out : Int32 × MT} (h : fX5_behind_j44 p1 p2 p3 S0 = some out) : V E (QR E (some (.int out.1)) (wdM E.G a0 out.2)) (wdM E.G a0 S0) 44 [(0, .ref (a0 0)), (1, .int p1), (2, .int p2), (3, .int p3)] [] := by
  unfold fX5_behind_j44 at h
  refine V_pb C hn [(.aload_n 0, 1), (.iload_n 1, 1), (.iload_n 2, 1)] (pc' := 47) (ls' := [(0, .ref (a0 0)), (1, .int p1), (2, .int p2), (3, .int p3)]) (st' := [.int p2, .int p1, .ref (a0 0)]) (decB_ok (by decide +kernel)) rfl rfl ?_
  obtain ⟨q11, h12, h⟩ := bnd h
  refine V_callV0 C (As := [.int p1, .int p2]) (rest := []) (by decide +kernel) ok_yX5_noSession mk_RX5_342 (cfX5_noSession (l := E.l) (G := E.G) a0 h12) (q0 := 0) rfl rfl rfl rfl rfl rfl (Nat.le_of_ble_eq_true rfl) (Nat.le_of_ble_eq_true rfl) (Nat.le_of_ble_eq_true rfl) ?_
  show V E _ (wdM E.G a0 S0) 50 [(0, .ref (a0 0)), (1, .int p1), (2, .int p2), (3, .int p3)] [.int q11]
  refine V_pb C hn [(.istore 4, 2), (.iload 4, 2)] (pc' := 54) (ls' := [(0, .ref (a0 0)), (1, .int p1), (2, .int p2), (3, .int p3), (4, .int q11)]) (st' := [.int q11]) (decB_ok (by decide +kernel)) rfl rfl ?_
  refine V_if_ge C (off := 10) (tgt := 64) (by decide +kernel) (by decide) h (fun _ h => ?_) (fun _ h => ?_)
  · refine V_pb C hn [(.aload_n 0, 1)] (pc' := 65) (ls' := [(0, .ref (a0 0)), (1, .int p1), (2, .int p2), (3, .int p3), (4, .int q11)]) (st' := [.ref (a0 0)]) (decB_ok (by decide +kernel)) rfl rfl ?_
    obtain ⟨q13, h14, h⟩ := bnd h
    refine V_callV0 C (As := []) (rest := []) (by decide +kernel) ok_yX5_settingNow mk_RX5_255 (cfX5_settingNow (l := E.l) (G := E.G) a0 h14) (q0 := 0) rfl rfl rfl rfl rfl rfl (Nat.le_of_ble_eq_true rfl) (Nat.le_of_ble_eq_true rfl) (Nat.le_of_ble_eq_true rfl) ?_
    show V E _ (wdM E.G a0 S0) 68 [(0, .ref (a0 0)), (1, .int p1), (2, .int p2), (3, .int p3), (4, .int q11)] [.int q13]
    refine V_pb C hn [(.istore 5, 2), (.aload_n 0, 1)] (pc' := 71) (ls' := [(0, .ref (a0 0)), (1, .int p1), (2, .int p2), (3, .int p3), (4, .int q11), (5, .int q13)]) (st' := [.ref (a0 0)]) (decB_ok (by decide +kernel)) rfl rfl ?_
    obtain ⟨q15, h16, h⟩ := bnd h
    refine V_callV0 C (As := []) (rest := []) (by decide +kernel) ok_yX5_begins mk_RX5_222 (cfX5_begins (l := E.l) (G := E.G) a0 h16) (q0 := 0) rfl rfl rfl rfl rfl rfl (Nat.le_of_ble_eq_true rfl) (Nat.le_of_ble_eq_true rfl) (Nat.le_of_ble_eq_true rfl) ?_
    show V E _ (wdM E.G a0 q15) 74 [(0, .ref (a0 0)), (1, .int p1), (2, .int p2), (3, .int p3), (4, .int q11), (5, .int q13)] []
    refine V_pb C hn [(.aload_n 0, 1), (.iload_n 1, 1), (.iload_n 2, 1)] (pc' := 77) (ls' := [(0, .ref (a0 0)), (1, .int p1), (2, .int p2), (3, .int p3), (4, .int q11), (5, .int q13)]) (st' := [.int p2, .int p1, .ref (a0 0)]) (decB_ok (by decide +kernel)) rfl rfl ?_
    obtain ⟨q17, h18, h⟩ := bnd h
    refine V_callV0 C (As := [.int p1, .int p2]) (rest := []) (by decide +kernel) ok_yX5_happens mk_RX5_345 (cfX5_happens (l := E.l) (G := E.G) a0 h18) (q0 := 0) rfl rfl rfl rfl rfl rfl (Nat.le_of_ble_eq_true rfl) (Nat.le_of_ble_eq_true rfl) (Nat.le_of_ble_eq_true rfl) ?_
    show V E _ (wdM E.G a0 q17) 80 [(0, .ref (a0 0)), (1, .int p1), (2, .int p2), (3, .int p3), (4, .int q11), (5, .int q13)] []
    refine V_pb C hn [(.iload_n 3, 1)] (pc' := 81) (ls' := [(0, .ref (a0 0)), (1, .int p1), (2, .int p2), (3, .int p3), (4, .int q11), (5, .int q13)]) (st' := [.int p3]) (decB_ok (by decide +kernel)) rfl rfl ?_
    refine V_if_ne C (off := 10) (tgt := 91) (by decide +kernel) (by decide) h (fun _ h => ?_) (fun _ h => ?_)
    · refine V_pb C hn [(.aload_n 0, 1)] (pc' := 85) (ls' := [(0, .ref (a0 0)), (1, .int p1), (2, .int p2), (3, .int p3), (4, .int q11), (5, .int q13)]) (st' := [.ref (a0 0)]) (decB_ok (by decide +kernel)) rfl rfl ?_
      obtain ⟨q19, h20, h⟩ := bnd h
      refine V_callV0 C (As := []) (rest := []) (by decide +kernel) ok_yX5_votesNow mk_RX5_213 (cfX5_votesNow (l := E.l) (G := E.G) a0 h20) (q0 := 0) rfl rfl rfl rfl rfl rfl (Nat.le_of_ble_eq_true rfl) (Nat.le_of_ble_eq_true rfl) (Nat.le_of_ble_eq_true rfl) ?_
      show V E _ (wdM E.G a0 q17) 88 [(0, .ref (a0 0)), (1, .int p1), (2, .int p2), (3, .int p3), (4, .int q11), (5, .int q13)] [.int q19]
      refine V_goto C (off := 32) (tgt := 120) (by decide +kernel) (by decide) ?_
      refine V_sub (ls' := [(0, .ref (a0 0)), (5, .int q13)]) rfl ?_
      exact cfX5_behind_j120 C hn h
    · refine V_pb C hn [(.iload_n 3, 1), (.iconst 1, 1)] (pc' := 93) (ls' := [(0, .ref (a0 0)), (1, .int p1), (2, .int p2), (3, .int p3), (4, .int q11), (5, .int q13)]) (st' := [.int (1 : Int32), .int p3]) (decB_ok (by decide +kernel)) rfl rfl ?_
      refine V_ic_ne C (off := 18) (tgt := 111) (by decide +kernel) (by decide) h (fun _ h => ?_) (fun _ h => ?_)
      · refine V_pb C hn [(.aload_n 0, 1)] (pc' := 97) (ls' := [(0, .ref (a0 0)), (1, .int p1), (2, .int p2), (3, .int p3), (4, .int q11), (5, .int q13)]) (st' := [.ref (a0 0)]) (decB_ok (by decide +kernel)) rfl rfl ?_
        obtain ⟨q25, h26, h⟩ := bnd h
        refine V_callV0 C (As := []) (rest := []) (by decide +kernel) ok_yX5_doesCarry mk_RX5_244 (cfX5_doesCarry (l := E.l) (G := E.G) a0 h26) (q0 := 0) rfl rfl rfl rfl rfl rfl (Nat.le_of_ble_eq_true rfl) (Nat.le_of_ble_eq_true rfl) (Nat.le_of_ble_eq_true rfl) ?_
        show V E _ (wdM E.G a0 q17) 100 [(0, .ref (a0 0)), (1, .int p1), (2, .int p2), (3, .int p3), (4, .int q11), (5, .int q13)] [.int q25]
        refine V_if_eq C (off := 7) (tgt := 107) (by decide +kernel) (by decide) h (fun _ h => ?_) (fun _ h => ?_)
        · refine V_pb C hn [(.iconst 0, 1)] (pc' := 108) (ls' := [(0, .ref (a0 0)), (1, .int p1), (2, .int p2), (3, .int p3), (4, .int q11), (5, .int q13)]) (st' := [.int (0 : Int32)]) (decB_ok (by decide +kernel)) rfl rfl ?_
          refine V_goto C (off := 12) (tgt := 120) (by decide +kernel) (by decide) ?_
          refine V_sub (ls' := [(0, .ref (a0 0)), (5, .int q13)]) rfl ?_
          exact cfX5_behind_j120 C hn h
        · refine V_pb C hn [(.iconst 1, 1)] (pc' := 104) (ls' := [(0, .ref (a0 0)), (1, .int p1), (2, .int p2), (3, .int p3), (4, .int q11), (5, .int q13)]) (st' := [.int (1 : Int32)]) (decB_ok (by decide +kernel)) rfl rfl ?_
          refine V_goto C (off := 16) (tgt := 120) (by decide +kernel) (by decide) ?_
          refine V_sub (ls' := [(0, .ref (a0 0)), (5, .int q13)]) rfl ?_
          exact cfX5_behind_j120 C hn h
      · refine V_pb C hn [(.aload_n 0, 1)] (pc' := 112) (ls' := [(0, .ref (a0 0)), (1, .int p1), (2, .int p2), (3, .int p3), (4, .int q11), (5, .int q13)]) (st' := [.ref (a0 0)]) (decB_ok (by decide +kernel)) rfl rfl ?_
        refine V_get C (v := .ref (a0 3)) (by decide +kernel) 0 4 fk_RX5_16 rfl rfl ?_
        refine V_pb C hn [(.iload_n 3, 1), (.bipush 10, 2), (.isub, 1)] (pc' := 119) (ls' := [(0, .ref (a0 0)), (1, .int p1), (2, .int p2), (3, .int p3), (4, .int q11), (5, .int q13)]) (st' := [.int (p3 - (10 : Int32)), .ref (a0 3)]) (decB_ok (by decide +kernel)) rfl rfl ?_
        refine V_iald C (f := (m_cell q17)) (by decide +kernel) 3 rfl h (fun h => ?_)
        refine V_sub (ls' := [(0, .ref (a0 0)), (5, .int q13)]) rfl ?_
        exact cfX5_behind_j120 C hn h
  · refine V_pb C hn [(.aload_n 0, 1), (.iload 4, 2)] (pc' := 60) (ls' := [(0, .ref (a0 0)), (1, .int p1), (2, .int p2), (3, .int p3), (4, .int q11)]) (st' := [.int q11, .ref (a0 0)]) (decB_ok (by decide +kernel)) rfl rfl ?_
    obtain ⟨q27, h28, h⟩ := bnd h
    refine V_callV0 C (As := [.int q11]) (rest := []) (by decide +kernel) ok_yX5_no mk_RX5_77 (cfX5_no (l := E.l) (G := E.G) a0 h28) (q0 := 0) rfl rfl rfl rfl rfl rfl (Nat.le_of_ble_eq_true rfl) (Nat.le_of_ble_eq_true rfl) (Nat.le_of_ble_eq_true rfl) ?_
    show V E _ (wdM E.G a0 q27.2) 63 [(0, .ref (a0 0)), (1, .int p1), (2, .int p2), (3, .int p3), (4, .int q11)] [.int q27.1]
    have h := Option.some.inj h
    subst h
    exact V_iret C (by decide +kernel) rfl
set_option maxRecDepth 100000 in
set_option maxHeartbeats 400000 in
theorem cfX5_behind {l : Launch} {G : GG} (a0 : Nat → Nat) {p1 : Int32} {p2 : Int32} {p3 : Int32} {S0 : MT} {out : Int32 × MT} (h : fX5_behind p1 p2 p3 S0 = some out) : Con l G 9 yX5_behind cX5_behind 7 (some .int) [.ref (a0 0), .int p1, .int p2, .int p3] (wdM G a0 S0) (some (.int out.1)) (wdM G a0 out.2) := by
  refine Con_of (by decide +kernel) (Nat.le_of_ble_eq_true rfl) (fun E hl hG hn C => ?_)
  subst hl
  subst hG
  have C : Ctx E cX5_behind RX5 9 (some .int) := C
  show V E _ _ 0 [(0, .ref (a0 0)), (1, .int p1), (2, .int p2), (3, .int p3)] []
  unfold fX5_behind at h
  refine V_pb C hn [(.iload_n 1, 1)] (pc' := 1) (ls' := [(0, .ref (a0 0)), (1, .int p1), (2, .int p2), (3, .int p3)]) (st' := [.int p1]) (decB_ok (by decide +kernel)) rfl rfl ?_
  obtain ⟨q1, h2, h⟩ := bnd h
  refine V_callSp C (As := [.int p1]) (rest := []) (by decide +kernel) ok_yX5_isShelf mk_RX5_73 (cfX5_isShelf (l := E.l) (G := E.G) h2) [] rfl rfl rfl rfl (Nat.le_of_ble_eq_true rfl) (Nat.le_of_ble_eq_true rfl) (Nat.le_of_ble_eq_true rfl) ?_
  show V E _ (wdM E.G a0 S0) 4 [(0, .ref (a0 0)), (1, .int p1), (2, .int p2), (3, .int p3)] [.int q1]
  refine V_if_eq C (off := 33) (tgt := 37) (by decide +kernel) (by decide) h (fun _ h => ?_) (fun _ h => ?_)
  · refine V_sub (ls' := [(0, .ref (a0 0))]) rfl ?_
    exact cfX5_behind_j37 C hn h
  · refine V_pb C hn [(.iload_n 2, 1), (.iconst 0, 1), (.bipush 40, 2)] (pc' := 11) (ls' := [(0, .ref (a0 0)), (1, .int p1), (2, .int p2), (3, .int p3)]) (st' := [.int (40 : Int32), .int (0 : Int32), .int p2]) (decB_ok (by decide +kernel)) rfl rfl ?_
    obtain ⟨q5, h6, h⟩ := bnd h
    refine V_callSp C (As := [.int p2, .int (0 : Int32), .int (40 : Int32)]) (rest := []) (by decide +kernel) ok_yX5_within mk_RX5_63 (cfX5_within (l := E.l) (G := E.G) h6) [] rfl rfl rfl rfl (Nat.le_of_ble_eq_true rfl) (Nat.le_of_ble_eq_true rfl) (Nat.le_of_ble_eq_true rfl) ?_
    show V E _ (wdM E.G a0 S0) 14 [(0, .ref (a0 0)), (1, .int p1), (2, .int p2), (3, .int p3)] [.int q5]
    refine V_if_eq C (off := 23) (tgt := 37) (by decide +kernel) (by decide) h (fun _ h => ?_) (fun _ h => ?_)
    · refine V_sub (ls' := [(0, .ref (a0 0))]) rfl ?_
      exact cfX5_behind_j37 C hn h
    · refine V_pb C hn [(.iload_n 3, 1), (.iconst 0, 1), (.iconst 1, 1)] (pc' := 20) (ls' := [(0, .ref (a0 0)), (1, .int p1), (2, .int p2), (3, .int p3)]) (st' := [.int (1 : Int32), .int (0 : Int32), .int p3]) (decB_ok (by decide +kernel)) rfl rfl ?_
      obtain ⟨q7, h8, h⟩ := bnd h
      refine V_callSp C (As := [.int p3, .int (0 : Int32), .int (1 : Int32)]) (rest := []) (by decide +kernel) ok_yX5_within mk_RX5_63 (cfX5_within (l := E.l) (G := E.G) h8) [] rfl rfl rfl rfl (Nat.le_of_ble_eq_true rfl) (Nat.le_of_ble_eq_true rfl) (Nat.le_of_ble_eq_true rfl) ?_
      show V E _ (wdM E.G a0 S0) 23 [(0, .ref (a0 0)), (1, .int p1), (2, .int p2), (3, .int p3)] [.int q7]
      refine V_if_ne C (off := 21) (tgt := 44) (by decide +kernel) (by decide) h (fun _ h => ?_) (fun _ h => ?_)
      · refine V_pb C hn [(.aload_n 0, 1), (.iload_n 3, 1), (.bipush 10, 2), (.isub, 1)] (pc' := 31) (ls' := [(0, .ref (a0 0)), (1, .int p1), (2, .int p2), (3, .int p3)]) (st' := [.int (p3 - (10 : Int32)), .ref (a0 0)]) (decB_ok (by decide +kernel)) rfl rfl ?_
        obtain ⟨q9, h10, h⟩ := bnd h
        refine V_callV0 C (As := [.int (p3 - (10 : Int32))]) (rest := []) (by decide +kernel) ok_yX5_isMote mk_RX5_91 (cfX5_isMote (l := E.l) (G := E.G) a0 h10) (q0 := 0) rfl rfl rfl rfl rfl rfl (Nat.le_of_ble_eq_true rfl) (Nat.le_of_ble_eq_true rfl) (Nat.le_of_ble_eq_true rfl) ?_
        show V E _ (wdM E.G a0 S0) 34 [(0, .ref (a0 0)), (1, .int p1), (2, .int p2), (3, .int p3)] [.int q9]
        refine V_if_ne C (off := 10) (tgt := 44) (by decide +kernel) (by decide) h (fun _ h => ?_) (fun _ h => ?_)
        · refine V_sub (ls' := [(0, .ref (a0 0))]) rfl ?_
          exact cfX5_behind_j37 C hn h
        · refine V_sub (ls' := [(0, .ref (a0 0)), (1, .int p1), (2, .int p2), (3, .int p3)]) rfl ?_
          exact cfX5_behind_j44 C hn h
      · refine V_sub (ls' := [(0, .ref (a0 0)), (1, .int p1), (2, .int p2), (3, .int p3)]) rfl ?_
        exact cfX5_behind_j44 C hn h
set_option maxRecDepth 100000 in
set_option maxHeartbeats 400000 in
theorem cfX5_done_j17 {E : VE} (C : Ctx E cX5_done RX5 9 (some .int)) (hn : E.nL = 4) {a0 : Nat → Nat} {p1 : Int32} {p2 : Int32} {S0 : MT} {out : Int32 × MT} (h : fX5_done_j17 p1 p2 S0 = some out) : V E (QR E (some (.int out.1)) (wdM E.G a0 out.2)) (wdM E.G a0 S0) 17 [(0, .ref (a0 0))] [] := by
  unfold fX5_done_j17 at h
  refine V_pb C hn [(.aload_n 0, 1), (.bipush (-2), 2)] (pc' := 20) (ls' := [(0, .ref (a0 0))]) (st' := [.int (cI (-2)), .ref (a0 0)]) (decB_ok (by decide +kernel)) rfl rfl ?_
  obtain ⟨q3, h4, h⟩ := bnd h
  refine V_callV0 C (As := [.int (cI (-2))]) (rest := []) (by decide +kernel) ok_yX5_no mk_RX5_77 (cfX5_no (l := E.l) (G := E.G) a0 h4) (q0 := 0) rfl rfl rfl rfl rfl rfl (Nat.le_of_ble_eq_true rfl) (Nat.le_of_ble_eq_true rfl) (Nat.le_of_ble_eq_true rfl) ?_
  show V E _ (wdM E.G a0 q3.2) 23 [(0, .ref (a0 0))] [.int q3.1]
  have h := Option.some.inj h
  subst h
  exact V_iret C (by decide +kernel) rfl
set_option maxRecDepth 100000 in
set_option maxHeartbeats 400000 in
theorem cfX5_done {l : Launch} {G : GG} (a0 : Nat → Nat) {p1 : Int32} {p2 : Int32} {S0 : MT} {out : Int32 × MT} (h : fX5_done p1 p2 S0 = some out) : Con l G 9 yX5_done cX5_done 4 (some .int) [.ref (a0 0), .int p1, .int p2] (wdM G a0 S0) (some (.int out.1)) (wdM G a0 out.2) := by
  refine Con_of (by decide +kernel) (Nat.le_of_ble_eq_true rfl) (fun E hl hG hn C => ?_)
  subst hl
  subst hG
  have C : Ctx E cX5_done RX5 9 (some .int) := C
  show V E _ _ 0 [(0, .ref (a0 0)), (1, .int p1), (2, .int p2)] []
  unfold fX5_done at h
  refine V_pb C hn [(.iload_n 1, 1)] (pc' := 1) (ls' := [(0, .ref (a0 0)), (1, .int p1), (2, .int p2)]) (st' := [.int p1]) (decB_ok (by decide +kernel)) rfl rfl ?_
  obtain ⟨q1, h2, h⟩ := bnd h
  refine V_callSp C (As := [.int p1]) (rest := []) (by decide +kernel) ok_yX5_isShelf mk_RX5_73 (cfX5_isShelf (l := E.l) (G := E.G) h2) [] rfl rfl rfl rfl (Nat.le_of_ble_eq_true rfl) (Nat.le_of_ble_eq_true rfl) (Nat.le_of_ble_eq_true rfl) ?_
  show V E _ (wdM E.G a0 S0) 4 [(0, .ref (a0 0)), (1, .int p1), (2, .int p2)] [.int q1]
  refine V_if_eq C (off := 13) (tgt := 17) (by decide +kernel) (by decide) h (fun _ h => ?_) (fun _ h => ?_)
  · refine V_sub (ls' := [(0, .ref (a0 0))]) rfl ?_
    exact cfX5_done_j17 C hn h
  · refine V_pb C hn [(.iload_n 2, 1), (.iconst 0, 1), (.bipush 40, 2)] (pc' := 11) (ls' := [(0, .ref (a0 0)), (1, .int p1), (2, .int p2)]) (st' := [.int (40 : Int32), .int (0 : Int32), .int p2]) (decB_ok (by decide +kernel)) rfl rfl ?_
    obtain ⟨q5, h6, h⟩ := bnd h
    refine V_callSp C (As := [.int p2, .int (0 : Int32), .int (40 : Int32)]) (rest := []) (by decide +kernel) ok_yX5_within mk_RX5_63 (cfX5_within (l := E.l) (G := E.G) h6) [] rfl rfl rfl rfl (Nat.le_of_ble_eq_true rfl) (Nat.le_of_ble_eq_true rfl) (Nat.le_of_ble_eq_true rfl) ?_
    show V E _ (wdM E.G a0 S0) 14 [(0, .ref (a0 0)), (1, .int p1), (2, .int p2)] [.int q5]
    refine V_if_ne C (off := 10) (tgt := 24) (by decide +kernel) (by decide) h (fun _ h => ?_) (fun _ h => ?_)
    · refine V_sub (ls' := [(0, .ref (a0 0))]) rfl ?_
      exact cfX5_done_j17 C hn h
    · refine V_pb C hn [(.aload_n 0, 1), (.iload_n 1, 1), (.iload_n 2, 1)] (pc' := 27) (ls' := [(0, .ref (a0 0)), (1, .int p1), (2, .int p2)]) (st' := [.int p2, .int p1, .ref (a0 0)]) (decB_ok (by decide +kernel)) rfl rfl ?_
      obtain ⟨q7, h8, h⟩ := bnd h
      refine V_callV0 C (As := [.int p1, .int p2]) (rest := []) (by decide +kernel) ok_yX5_noSession mk_RX5_342 (cfX5_noSession (l := E.l) (G := E.G) a0 h8) (q0 := 0) rfl rfl rfl rfl rfl rfl (Nat.le_of_ble_eq_true rfl) (Nat.le_of_ble_eq_true rfl) (Nat.le_of_ble_eq_true rfl) ?_
      show V E _ (wdM E.G a0 S0) 30 [(0, .ref (a0 0)), (1, .int p1), (2, .int p2)] [.int q7]
      refine V_pb C hn [(.istore_n 3, 1), (.iload_n 3, 1)] (pc' := 32) (ls' := [(0, .ref (a0 0)), (1, .int p1), (2, .int p2), (3, .int q7)]) (st' := [.int q7]) (decB_ok (by decide +kernel)) rfl rfl ?_
      refine V_if_ge C (off := 9) (tgt := 41) (by decide +kernel) (by decide) h (fun _ h => ?_) (fun _ h => ?_)
      · refine V_pb C hn [(.aload_n 0, 1), (.iload_n 1, 1), (.iload_n 2, 1)] (pc' := 44) (ls' := [(0, .ref (a0 0)), (1, .int p1), (2, .int p2), (3, .int q7)]) (st' := [.int p2, .int p1, .ref (a0 0)]) (decB_ok (by decide +kernel)) rfl rfl ?_
        obtain ⟨q9, h10, h⟩ := bnd h
        refine V_callV0 C (As := [.int p1, .int p2]) (rest := []) (by decide +kernel) ok_yX5_happens mk_RX5_345 (cfX5_happens (l := E.l) (G := E.G) a0 h10) (q0 := 0) rfl rfl rfl rfl rfl rfl (Nat.le_of_ble_eq_true rfl) (Nat.le_of_ble_eq_true rfl) (Nat.le_of_ble_eq_true rfl) ?_
        show V E _ (wdM E.G a0 q9) 47 [(0, .ref (a0 0)), (1, .int p1), (2, .int p2), (3, .int q7)] []
        refine V_pb C hn [(.aload_n 0, 1)] (pc' := 48) (ls' := [(0, .ref (a0 0)), (1, .int p1), (2, .int p2), (3, .int q7)]) (st' := [.ref (a0 0)]) (decB_ok (by decide +kernel)) rfl rfl ?_
        obtain ⟨q11, h12, h⟩ := bnd h
        refine V_callV0 C (As := []) (rest := []) (by decide +kernel) ok_yX5_votesNow mk_RX5_213 (cfX5_votesNow (l := E.l) (G := E.G) a0 h12) (q0 := 0) rfl rfl rfl rfl rfl rfl (Nat.le_of_ble_eq_true rfl) (Nat.le_of_ble_eq_true rfl) (Nat.le_of_ble_eq_true rfl) ?_
        show V E _ (wdM E.G a0 q9) 51 [(0, .ref (a0 0)), (1, .int p1), (2, .int p2), (3, .int q7)] [.int q11]
        have h := Option.some.inj h
        subst h
        exact V_iret C (by decide +kernel) rfl
      · refine V_pb C hn [(.aload_n 0, 1), (.iload_n 3, 1)] (pc' := 37) (ls' := [(0, .ref (a0 0)), (1, .int p1), (2, .int p2), (3, .int q7)]) (st' := [.int q7, .ref (a0 0)]) (decB_ok (by decide +kernel)) rfl rfl ?_
        obtain ⟨q13, h14, h⟩ := bnd h
        refine V_callV0 C (As := [.int q7]) (rest := []) (by decide +kernel) ok_yX5_no mk_RX5_77 (cfX5_no (l := E.l) (G := E.G) a0 h14) (q0 := 0) rfl rfl rfl rfl rfl rfl (Nat.le_of_ble_eq_true rfl) (Nat.le_of_ble_eq_true rfl) (Nat.le_of_ble_eq_true rfl) ?_
        show V E _ (wdM E.G a0 q13.2) 40 [(0, .ref (a0 0)), (1, .int p1), (2, .int p2), (3, .int q7)] [.int q13.1]
        have h := Option.some.inj h
        subst h
        exact V_iret C (by decide +kernel) rfl
set_option maxRecDepth 100000 in
set_option maxHeartbeats 400000 in
theorem cfX5_steps_L19 {E : VE} (C : Ctx E cX5_steps RX5 8 (some .int)) (hn : E.nL = 3) {a0 : Nat → Nat} {p1 : Int32} {out : Int32 × MT} : ∀ (n : Nat) (v2 : Int32) (S0 : MT), fX5_steps_L19 p1 n v2 S0 = some out → V E (QR E (some (.int out.1)) (wdM E.G a0 out.2)) (wdM E.G a0 S0) 19 [(0, .ref (a0 0)), (1, .int p1), (2, .int v2)] [] := by
  intro n
  induction n with
  | zero =>
    intro v2 S0 h
    cases h
  | succ n ih =>
    intro v2 S0 h
    unfold fX5_steps_L19 at h
    refine V_pb C hn [(.iload_n 2, 1), (.iload_n 1, 1)] (pc' := 21) (ls' := [(0, .ref (a0 0)), (1, .int p1), (2, .int v2)]) (st' := [.int p1, .int v2]) (decB_ok (by decide +kernel)) rfl rfl ?_
    refine V_ic_ge C (off := 13) (tgt := 34) (by decide +kernel) (by decide) h (fun _ h => ?_) (fun _ h => ?_)
    · refine V_pb C hn [(.aload_n 0, 1)] (pc' := 35) (ls' := [(0, .ref (a0 0)), (1, .int p1), (2, .int v2)]) (st' := [.ref (a0 0)]) (decB_ok (by decide +kernel)) rfl rfl ?_
      obtain ⟨q5, h6, h⟩ := bnd h
      refine V_callV0 C (As := []) (rest := []) (by decide +kernel) ok_yX5_votesNow mk_RX5_213 (cfX5_votesNow (l := E.l) (G := E.G) a0 h6) (q0 := 0) rfl rfl rfl rfl rfl rfl (Nat.le_of_ble_eq_true rfl) (Nat.le_of_ble_eq_true rfl) (Nat.le_of_ble_eq_true rfl) ?_
      show V E _ (wdM E.G a0 S0) 38 [(0, .ref (a0 0)), (1, .int p1), (2, .int v2)] [.int q5]
      have h := Option.some.inj h
      subst h
      exact V_iret C (by decide +kernel) rfl
    · refine V_pb C hn [(.aload_n 0, 1)] (pc' := 25) (ls' := [(0, .ref (a0 0)), (1, .int p1), (2, .int v2)]) (st' := [.ref (a0 0)]) (decB_ok (by decide +kernel)) rfl rfl ?_
      obtain ⟨q7, h8, h⟩ := bnd h
      refine V_callV0 C (As := []) (rest := []) (by decide +kernel) ok_yX5_step mk_RX5_225 (cfX5_step (l := E.l) (G := E.G) a0 h8) (q0 := 0) rfl rfl rfl rfl rfl rfl (Nat.le_of_ble_eq_true rfl) (Nat.le_of_ble_eq_true rfl) (Nat.le_of_ble_eq_true rfl) ?_
      show V E _ (wdM E.G a0 q7) 28 [(0, .ref (a0 0)), (1, .int p1), (2, .int v2)] []
      refine V_pb C hn [(.iinc 2 1, 3)] (pc' := 31) (ls' := [(0, .ref (a0 0)), (1, .int p1), (2, .int (v2 + (1 : Int32)))]) (st' := []) (decB_ok (by decide +kernel)) rfl rfl ?_
      refine V_goto C (off := -12) (tgt := 19) (by decide +kernel) (by decide) ?_
      refine V_sub (ls' := [(0, .ref (a0 0)), (1, .int p1), (2, .int (v2 + (1 : Int32)))]) rfl ?_
      exact ih _ _ h
set_option maxRecDepth 100000 in
set_option maxHeartbeats 400000 in
theorem cfX5_steps {l : Launch} {G : GG} (a0 : Nat → Nat) {p1 : Int32} {S0 : MT} {out : Int32 × MT} (h : fX5_steps p1 S0 = some out) : Con l G 8 yX5_steps cX5_steps 3 (some .int) [.ref (a0 0), .int p1] (wdM G a0 S0) (some (.int out.1)) (wdM G a0 out.2) := by
  refine Con_of (by decide +kernel) (Nat.le_of_ble_eq_true rfl) (fun E hl hG hn C => ?_)
  subst hl
  subst hG
  have C : Ctx E cX5_steps RX5 8 (some .int) := C
  show V E _ _ 0 [(0, .ref (a0 0)), (1, .int p1)] []
  unfold fX5_steps at h
  refine V_pb C hn [(.iload_n 1, 1), (.iconst 1, 1), (.bipush 24, 2)] (pc' := 4) (ls' := [(0, .ref (a0 0)), (1, .int p1)]) (st' := [.int (24 : Int32), .int (1 : Int32), .int p1]) (decB_ok (by decide +kernel)) rfl rfl ?_
  obtain ⟨q1, h2, h⟩ := bnd h
  refine V_callSp C (As := [.int p1, .int (1 : Int32), .int (24 : Int32)]) (rest := []) (by decide +kernel) ok_yX5_within mk_RX5_63 (cfX5_within (l := E.l) (G := E.G) h2) [] rfl rfl rfl rfl (Nat.le_of_ble_eq_true rfl) (Nat.le_of_ble_eq_true rfl) (Nat.le_of_ble_eq_true rfl) ?_
  show V E _ (wdM E.G a0 S0) 7 [(0, .ref (a0 0)), (1, .int p1)] [.int q1]
  refine V_if_ne C (off := 10) (tgt := 17) (by decide +kernel) (by decide) h (fun _ h => ?_) (fun _ h => ?_)
  · refine V_pb C hn [(.aload_n 0, 1), (.bipush (-2), 2)] (pc' := 13) (ls' := [(0, .ref (a0 0)), (1, .int p1)]) (st' := [.int (cI (-2)), .ref (a0 0)]) (decB_ok (by decide +kernel)) rfl rfl ?_
    obtain ⟨q3, h4, h⟩ := bnd h
    refine V_callV0 C (As := [.int (cI (-2))]) (rest := []) (by decide +kernel) ok_yX5_no mk_RX5_77 (cfX5_no (l := E.l) (G := E.G) a0 h4) (q0 := 0) rfl rfl rfl rfl rfl rfl (Nat.le_of_ble_eq_true rfl) (Nat.le_of_ble_eq_true rfl) (Nat.le_of_ble_eq_true rfl) ?_
    show V E _ (wdM E.G a0 q3.2) 16 [(0, .ref (a0 0)), (1, .int p1)] [.int q3.1]
    have h := Option.some.inj h
    subst h
    exact V_iret C (by decide +kernel) rfl
  · refine V_pb C hn [(.iconst 0, 1), (.istore_n 2, 1)] (pc' := 19) (ls' := [(0, .ref (a0 0)), (1, .int p1), (2, .int (0 : Int32))]) (st' := []) (decB_ok (by decide +kernel)) rfl rfl ?_
    refine V_sub (ls' := [(0, .ref (a0 0)), (1, .int p1), (2, .int (0 : Int32))]) rfl ?_
    exact cfX5_steps_L19 C hn FU _ _ h
set_option maxRecDepth 100000 in
set_option maxHeartbeats 400000 in
theorem cfX5_draw {l : Launch} {G : GG} (a0 : Nat → Nat) {p1 : Int32} {S0 : MT} {out : Int32 × MT} (h : fX5_draw p1 S0 = some out) : Con l G 0 yX5_draw cX5_draw 2 (some .int) [.ref (a0 0), .int p1] (wdM G a0 S0) (some (.int out.1)) (wdM G a0 out.2) := by
  refine Con_of (by decide +kernel) (Nat.le_of_ble_eq_true rfl) (fun E hl hG hn C => ?_)
  subst hl
  subst hG
  have C : Ctx E cX5_draw RX5 0 (some .int) := C
  show V E _ _ 0 [(0, .ref (a0 0)), (1, .int p1)] []
  unfold fX5_draw at h
  refine V_pb C hn [(.aload_n 0, 1), (.aload_n 0, 1)] (pc' := 2) (ls' := [(0, .ref (a0 0)), (1, .int p1)]) (st' := [.ref (a0 0), .ref (a0 0)]) (decB_ok (by decide +kernel)) rfl rfl ?_
  refine V_get C (v := .int (m_seed S0)) (by decide +kernel) 0 7 fk_RX5_57 rfl rfl ?_
  refine V_ldcw C (by decide +kernel) kk_RX5_349 ?_
  refine V_pb C hn [(.imul, 1), (.sipush 12345, 3), (.iadd, 1)] (pc' := 13) (ls' := [(0, .ref (a0 0)), (1, .int p1)]) (st' := [.int (((m_seed S0) * (1103515245 : Int32)) + (12345 : Int32)), .ref (a0 0)]) (decB_ok (by decide +kernel)) rfl rfl ?_
  obtain ⟨x1, e2, h⟩ := bnd h
  refine V_topi e2 ?_
  refine V_put C (v := .int x1) (ws' := wdM E.G a0 (ms_seed S0 x1)) (by decide +kernel) 0 7 pk_RX5_57 rfl rfl rfl (Nat.le_of_ble_eq_true rfl) rfl ?_
  refine V_pb C hn [(.aload_n 0, 1)] (pc' := 17) (ls' := [(0, .ref (a0 0)), (1, .int p1)]) (st' := [.ref (a0 0)]) (decB_ok (by decide +kernel)) rfl rfl ?_
  refine V_get C (v := .int x1) (by decide +kernel) 0 7 fk_RX5_57 rfl rfl ?_
  refine V_pb C hn [(.bipush 16, 2), (.iushr, 1), (.iload_n 1, 1)] (pc' := 24) (ls' := [(0, .ref (a0 0)), (1, .int p1)]) (st' := [.int p1, .int (jushr x1 (16 : Int32))]) (decB_ok (by decide +kernel)) rfl rfl ?_
  obtain ⟨hd3, h⟩ := dv_some h
  refine V_irem C (by decide +kernel) hd3 ?_
  have h := Option.some.inj h
  subst h
  exact V_iret C (by decide +kernel) rfl
set_option maxRecDepth 100000 in
set_option maxHeartbeats 400000 in
theorem cfX5_hours_j81 {E : VE} (C : Ctx E cX5_hours RX5 8 (some .int)) (hn : E.nL = 5) {a0 : Nat → Nat} {p1 : Int32} {v2 : Int32} {v3 : Int32} {S0 : MT} {out : Int32 × MT} {k21 : Int32 → Int32 → MT → Option (Int32 × MT)} (hk21 : ∀ (v2 : Int32) (v3 : Int32) (S0 : MT), k21 v2 v3 S0 = some out → V E (QR E (some (.int out.1)) (wdM E.G a0 out.2)) (wdM E.G a0 S0) 21 [(0, .ref (a0 0)), (1, .int p1), (2, .int v2), (3, .int v3)] []) (h : fX5_hours_j81 k21 p1 v2 v3 S0 = some out) : V E (QR E (some (.int out.1)) (wdM E.G a0 out.2)) (wdM E.G a0 S0) 81 [(0, .ref (a0 0)), (1, .int p1), (2, .int v2), (3, .int v3)] [] := by
  unfold fX5_hours_j81 at h
  refine V_pb C hn [(.iinc 3 1, 3)] (pc' := 84) (ls' := [(0, .ref (a0 0)), (1, .int p1), (2, .int v2), (3, .int (v3 + (1 : Int32)))]) (st' := []) (decB_ok (by decide +kernel)) rfl rfl ?_
  refine V_goto C (off := -63) (tgt := 21) (by decide +kernel) (by decide) ?_
  refine V_sub (ls' := [(0, .ref (a0 0)), (1, .int p1), (2, .int v2), (3, .int (v3 + (1 : Int32)))]) rfl ?_
  exact hk21 _ _ _ h
set_option maxRecDepth 100000 in
set_option maxHeartbeats 400000 in
theorem cfX5_hours_j67 {E : VE} (C : Ctx E cX5_hours RX5 8 (some .int)) (hn : E.nL = 5) {a0 : Nat → Nat} {p1 : Int32} {v2 : Int32} {v3 : Int32} {S0 : MT} {out : Int32 × MT} {k21 : Int32 → Int32 → MT → Option (Int32 × MT)} (hk21 : ∀ (v2 : Int32) (v3 : Int32) (S0 : MT), k21 v2 v3 S0 = some out → V E (QR E (some (.int out.1)) (wdM E.G a0 out.2)) (wdM E.G a0 S0) 21 [(0, .ref (a0 0)), (1, .int p1), (2, .int v2), (3, .int v3)] []) (h : fX5_hours_j67 k21 p1 v2 v3 S0 = some out) : V E (QR E (some (.int out.1)) (wdM E.G a0 out.2)) (wdM E.G a0 S0) 67 [(0, .ref (a0 0)), (1, .int p1), (2, .int v2), (3, .int v3)] [] := by
  unfold fX5_hours_j67 at h
  refine V_pb C hn [(.aload_n 0, 1)] (pc' := 68) (ls' := [(0, .ref (a0 0)), (1, .int p1), (2, .int v2), (3, .int v3)]) (st' := [.ref (a0 0)]) (decB_ok (by decide +kernel)) rfl rfl ?_
  obtain ⟨q5, h6, h⟩ := bnd h
  refine V_callV0 C (As := []) (rest := []) (by decide +kernel) ok_yX5_step mk_RX5_225 (cfX5_step (l := E.l) (G := E.G) a0 h6) (q0 := 0) rfl rfl rfl rfl rfl rfl (Nat.le_of_ble_eq_true rfl) (Nat.le_of_ble_eq_true rfl) (Nat.le_of_ble_eq_true rfl) ?_
  show V E _ (wdM E.G a0 q5) 71 [(0, .ref (a0 0)), (1, .int p1), (2, .int v2), (3, .int v3)] []
  refine V_pb C hn [(.aload_n 0, 1)] (pc' := 72) (ls' := [(0, .ref (a0 0)), (1, .int p1), (2, .int v2), (3, .int v3)]) (st' := [.ref (a0 0)]) (decB_ok (by decide +kernel)) rfl rfl ?_
  obtain ⟨q7, h8, h⟩ := bnd h
  refine V_callV0 C (As := []) (rest := []) (by decide +kernel) ok_yX5_doesCarry mk_RX5_244 (cfX5_doesCarry (l := E.l) (G := E.G) a0 h8) (q0 := 0) rfl rfl rfl rfl rfl rfl (Nat.le_of_ble_eq_true rfl) (Nat.le_of_ble_eq_true rfl) (Nat.le_of_ble_eq_true rfl) ?_
  show V E _ (wdM E.G a0 q5) 75 [(0, .ref (a0 0)), (1, .int p1), (2, .int v2), (3, .int v3)] [.int q7]
  refine V_if_eq C (off := 6) (tgt := 81) (by decide +kernel) (by decide) h (fun _ h => ?_) (fun _ h => ?_)
  · refine V_sub (ls' := [(0, .ref (a0 0)), (1, .int p1), (2, .int v2), (3, .int v3)]) rfl ?_
    exact cfX5_hours_j81 C hn (k21 := k21) (hk21) h
  · refine V_pb C hn [(.iinc 2 1, 3)] (pc' := 81) (ls' := [(0, .ref (a0 0)), (1, .int p1), (2, .int (v2 + (1 : Int32))), (3, .int v3)]) (st' := []) (decB_ok (by decide +kernel)) rfl rfl ?_
    refine V_sub (ls' := [(0, .ref (a0 0)), (1, .int p1), (2, .int (v2 + (1 : Int32))), (3, .int v3)]) rfl ?_
    exact cfX5_hours_j81 C hn (k21 := k21) (hk21) h
set_option maxRecDepth 100000 in
set_option maxHeartbeats 400000 in
theorem cfX5_hours_j58 {E : VE} (C : Ctx E cX5_hours RX5 8 (some .int)) (hn : E.nL = 5) {a0 : Nat → Nat} {p1 : Int32} {v2 : Int32} {v3 : Int32} {v4 : Int32} {s0 : Int32} {s1 : Int32} {S0 : MT} {out : Int32 × MT} {k21 : Int32 → Int32 → MT → Option (Int32 × MT)} (hk21 : ∀ (v2 : Int32) (v3 : Int32) (S0 : MT), k21 v2 v3 S0 = some out → V E (QR E (some (.int out.1)) (wdM E.G a0 out.2)) (wdM E.G a0 S0) 21 [(0, .ref (a0 0)), (1, .int p1), (2, .int v2), (3, .int v3)] []) {k29 : Int32 → Int32 → Int32 → MT → Option (Int32 × MT)} (hk29 : ∀ (v2 : Int32) (v3 : Int32) (v4 : Int32) (S0 : MT), k29 v2 v3 v4 S0 = some out → V E (QR E (some (.int out.1)) (wdM E.G a0 out.2)) (wdM E.G a0 S0) 29 [(0, .ref (a0 0)), (1, .int p1), (2, .int v2), (3, .int v3), (4, .int v4)] []) (h : fX5_hours_j58 k21 k29 p1 v2 v3 v4 s0 s1 S0 = some out) : V E (QR E (some (.int out.1)) (wdM E.G a0 out.2)) (wdM E.G a0 S0) 58 [(0, .ref (a0 0)), (1, .int p1), (2, .int v2), (3, .int v3), (4, .int v4)] [.int s0, .int s1, .ref (a0 0)] := by
  unfold fX5_hours_j58 at h
  obtain ⟨q11, h12, h⟩ := bnd h
  refine V_callV0 C (As := [.int s1, .int s0]) (rest := []) (by decide +kernel) ok_yX5_opens mk_RX5_112 (cfX5_opens (l := E.l) (G := E.G) a0 h12) (q0 := 0) rfl rfl rfl rfl rfl rfl (Nat.le_of_ble_eq_true rfl) (Nat.le_of_ble_eq_true rfl) (Nat.le_of_ble_eq_true rfl) ?_
  show V E _ (wdM E.G a0 q11) 61 [(0, .ref (a0 0)), (1, .int p1), (2, .int v2), (3, .int v3), (4, .int v4)] []
  refine V_pb C hn [(.iinc 4 1, 3)] (pc' := 64) (ls' := [(0, .ref (a0 0)), (1, .int p1), (2, .int v2), (3, .int v3), (4, .int (v4 + (1 : Int32)))]) (st' := []) (decB_ok (by decide +kernel)) rfl rfl ?_
  refine V_goto C (off := -35) (tgt := 29) (by decide +kernel) (by decide) ?_
  refine V_sub (ls' := [(0, .ref (a0 0)), (1, .int p1), (2, .int v2), (3, .int v3), (4, .int (v4 + (1 : Int32)))]) rfl ?_
  exact hk29 _ _ _ _ h
set_option maxRecDepth 100000 in
set_option maxHeartbeats 400000 in
theorem cfX5_hours_L29 {E : VE} (C : Ctx E cX5_hours RX5 8 (some .int)) (hn : E.nL = 5) {a0 : Nat → Nat} {p1 : Int32} {out : Int32 × MT} {k21 : Int32 → Int32 → MT → Option (Int32 × MT)} (hk21 : ∀ (v2 : Int32) (v3 : Int32) (S0 : MT), k21 v2 v3 S0 = some out → V E (QR E (some (.int out.1)) (wdM E.G a0 out.2)) (wdM E.G a0 S0) 21 [(0, .ref (a0 0)), (1, .int p1), (2, .int v2), (3, .int v3)] []) : ∀ (n : Nat) (v2 : Int32) (v3 : Int32) (v4 : Int32) (S0 : MT), fX5_hours_L29 k21 p1 n v2 v3 v4 S0 = some out → V E (QR E (some (.int out.1)) (wdM E.G a0 out.2)) (wdM E.G a0 S0) 29 [(0, .ref (a0 0)), (1, .int p1), (2, .int v2), (3, .int v3), (4, .int v4)] [] := by
  intro n
  induction n with
  | zero =>
    intro v2 v3 v4 S0 h
    cases h
  | succ n ih =>
    intro v2 v3 v4 S0 h
    unfold fX5_hours_L29 at h
    refine V_pb C hn [(.iload 4, 2), (.iconst 4, 1)] (pc' := 32) (ls' := [(0, .ref (a0 0)), (1, .int p1), (2, .int v2), (3, .int v3), (4, .int v4)]) (st' := [.int (4 : Int32), .int v4]) (decB_ok (by decide +kernel)) rfl rfl ?_
    refine V_ic_ge C (off := 35) (tgt := 67) (by decide +kernel) (by decide) h (fun _ h => ?_) (fun _ h => ?_)
    · refine V_sub (ls' := [(0, .ref (a0 0)), (1, .int p1), (2, .int v2), (3, .int v3)]) rfl ?_
      exact cfX5_hours_j67 C hn (k21 := k21) (hk21) h
    · refine V_pb C hn [(.aload_n 0, 1), (.iload 4, 2), (.aload_n 0, 1), (.bipush 12, 2)] (pc' := 41) (ls' := [(0, .ref (a0 0)), (1, .int p1), (2, .int v2), (3, .int v3), (4, .int v4)]) (st' := [.int (12 : Int32), .ref (a0 0), .int v4, .ref (a0 0)]) (decB_ok (by decide +kernel)) rfl rfl ?_
      obtain ⟨q9, h10, h⟩ := bnd h
      refine V_callV0 C (As := [.int (12 : Int32)]) (rest := [.int v4, .ref (a0 0)]) (by decide +kernel) ok_yX5_draw mk_RX5_350 (cfX5_draw (l := E.l) (G := E.G) a0 h10) (q0 := 0) rfl rfl rfl rfl rfl rfl (Nat.le_of_ble_eq_true rfl) (Nat.le_of_ble_eq_true rfl) (Nat.le_of_ble_eq_true rfl) ?_
      show V E _ (wdM E.G a0 q9.2) 44 [(0, .ref (a0 0)), (1, .int p1), (2, .int v2), (3, .int v3), (4, .int v4)] [.int q9.1, .int v4, .ref (a0 0)]
      refine V_pb C hn [(.aload_n 0, 1)] (pc' := 45) (ls' := [(0, .ref (a0 0)), (1, .int p1), (2, .int v2), (3, .int v3), (4, .int v4)]) (st' := [.ref (a0 0), .int q9.1, .int v4, .ref (a0 0)]) (decB_ok (by decide +kernel)) rfl rfl ?_
      refine V_get C (v := .ref (a0 4)) (by decide +kernel) 0 6 fk_RX5_19 rfl rfl ?_
      refine V_pb C hn [(.iconst 4, 1)] (pc' := 49) (ls' := [(0, .ref (a0 0)), (1, .int p1), (2, .int v2), (3, .int v3), (4, .int v4)]) (st' := [.int (4 : Int32), .ref (a0 4), .int q9.1, .int v4, .ref (a0 0)]) (decB_ok (by decide +kernel)) rfl rfl ?_
      refine V_iald C (f := (m_ways q9.2)) (by decide +kernel) 4 rfl h (fun h => ?_)
      refine V_ic_ge C (off := 7) (tgt := 57) (by decide +kernel) (by decide) h (fun _ h => ?_) (fun _ h => ?_)
      · refine V_pb C hn [(.iconst 0, 1)] (pc' := 58) (ls' := [(0, .ref (a0 0)), (1, .int p1), (2, .int v2), (3, .int v3), (4, .int v4)]) (st' := [.int (0 : Int32), .int v4, .ref (a0 0)]) (decB_ok (by decide +kernel)) rfl rfl ?_
        refine V_sub (ls' := [(0, .ref (a0 0)), (1, .int p1), (2, .int v2), (3, .int v3), (4, .int v4)]) rfl ?_
        exact cfX5_hours_j58 C hn (k21 := k21) (hk21) (k29 := (fun v2 v3 v4 S0 => fX5_hours_L29 k21 p1 n v2 v3 v4 S0)) (fun v2 v3 v4 S0 h => ih v2 v3 v4 S0 h) h
      · refine V_pb C hn [(.iconst 1, 1)] (pc' := 54) (ls' := [(0, .ref (a0 0)), (1, .int p1), (2, .int v2), (3, .int v3), (4, .int v4)]) (st' := [.int (1 : Int32), .int v4, .ref (a0 0)]) (decB_ok (by decide +kernel)) rfl rfl ?_
        refine V_goto C (off := 4) (tgt := 58) (by decide +kernel) (by decide) ?_
        refine V_sub (ls' := [(0, .ref (a0 0)), (1, .int p1), (2, .int v2), (3, .int v3), (4, .int v4)]) rfl ?_
        exact cfX5_hours_j58 C hn (k21 := k21) (hk21) (k29 := (fun v2 v3 v4 S0 => fX5_hours_L29 k21 p1 n v2 v3 v4 S0)) (fun v2 v3 v4 S0 h => ih v2 v3 v4 S0 h) h
set_option maxRecDepth 100000 in
set_option maxHeartbeats 400000 in
theorem cfX5_hours_L21 {E : VE} (C : Ctx E cX5_hours RX5 8 (some .int)) (hn : E.nL = 5) {a0 : Nat → Nat} {p1 : Int32} {out : Int32 × MT} : ∀ (n : Nat) (v2 : Int32) (v3 : Int32) (S0 : MT), fX5_hours_L21 p1 n v2 v3 S0 = some out → V E (QR E (some (.int out.1)) (wdM E.G a0 out.2)) (wdM E.G a0 S0) 21 [(0, .ref (a0 0)), (1, .int p1), (2, .int v2), (3, .int v3)] [] := by
  intro n
  induction n with
  | zero =>
    intro v2 v3 S0 h
    cases h
  | succ n ih =>
    intro v2 v3 S0 h
    unfold fX5_hours_L21 at h
    refine V_pb C hn [(.iload_n 3, 1), (.iload_n 1, 1)] (pc' := 23) (ls' := [(0, .ref (a0 0)), (1, .int p1), (2, .int v2), (3, .int v3)]) (st' := [.int p1, .int v3]) (decB_ok (by decide +kernel)) rfl rfl ?_
    refine V_ic_ge C (off := 64) (tgt := 87) (by decide +kernel) (by decide) h (fun _ h => ?_) (fun _ h => ?_)
    · refine V_pb C hn [(.iload_n 2, 1)] (pc' := 88) (ls' := [(0, .ref (a0 0)), (1, .int p1), (2, .int v2), (3, .int v3)]) (st' := [.int v2]) (decB_ok (by decide +kernel)) rfl rfl ?_
      have h := Option.some.inj h
      subst h
      exact V_iret C (by decide +kernel) rfl
    · refine V_pb C hn [(.iconst 0, 1), (.istore 4, 2)] (pc' := 29) (ls' := [(0, .ref (a0 0)), (1, .int p1), (2, .int v2), (3, .int v3), (4, .int (0 : Int32))]) (st' := []) (decB_ok (by decide +kernel)) rfl rfl ?_
      refine V_sub (ls' := [(0, .ref (a0 0)), (1, .int p1), (2, .int v2), (3, .int v3), (4, .int (0 : Int32))]) rfl ?_
      exact cfX5_hours_L29 C hn (k21 := (fun v2 v3 S0 => fX5_hours_L21 p1 n v2 v3 S0)) (fun v2 v3 S0 h => ih v2 v3 S0 h) FU _ _ _ _ h
set_option maxRecDepth 100000 in
set_option maxHeartbeats 400000 in
theorem cfX5_hours {l : Launch} {G : GG} (a0 : Nat → Nat) {p1 : Int32} {S0 : MT} {out : Int32 × MT} (h : fX5_hours p1 S0 = some out) : Con l G 8 yX5_hours cX5_hours 5 (some .int) [.ref (a0 0), .int p1] (wdM G a0 S0) (some (.int out.1)) (wdM G a0 out.2) := by
  refine Con_of (by decide +kernel) (Nat.le_of_ble_eq_true rfl) (fun E hl hG hn C => ?_)
  subst hl
  subst hG
  have C : Ctx E cX5_hours RX5 8 (some .int) := C
  show V E _ _ 0 [(0, .ref (a0 0)), (1, .int p1)] []
  unfold fX5_hours at h
  refine V_pb C hn [(.iload_n 1, 1), (.iconst 1, 1), (.bipush 60, 2)] (pc' := 4) (ls' := [(0, .ref (a0 0)), (1, .int p1)]) (st' := [.int (60 : Int32), .int (1 : Int32), .int p1]) (decB_ok (by decide +kernel)) rfl rfl ?_
  obtain ⟨q1, h2, h⟩ := bnd h
  refine V_callSp C (As := [.int p1, .int (1 : Int32), .int (60 : Int32)]) (rest := []) (by decide +kernel) ok_yX5_within mk_RX5_63 (cfX5_within (l := E.l) (G := E.G) h2) [] rfl rfl rfl rfl (Nat.le_of_ble_eq_true rfl) (Nat.le_of_ble_eq_true rfl) (Nat.le_of_ble_eq_true rfl) ?_
  show V E _ (wdM E.G a0 S0) 7 [(0, .ref (a0 0)), (1, .int p1)] [.int q1]
  refine V_if_ne C (off := 10) (tgt := 17) (by decide +kernel) (by decide) h (fun _ h => ?_) (fun _ h => ?_)
  · refine V_pb C hn [(.aload_n 0, 1), (.bipush (-2), 2)] (pc' := 13) (ls' := [(0, .ref (a0 0)), (1, .int p1)]) (st' := [.int (cI (-2)), .ref (a0 0)]) (decB_ok (by decide +kernel)) rfl rfl ?_
    obtain ⟨q3, h4, h⟩ := bnd h
    refine V_callV0 C (As := [.int (cI (-2))]) (rest := []) (by decide +kernel) ok_yX5_no mk_RX5_77 (cfX5_no (l := E.l) (G := E.G) a0 h4) (q0 := 0) rfl rfl rfl rfl rfl rfl (Nat.le_of_ble_eq_true rfl) (Nat.le_of_ble_eq_true rfl) (Nat.le_of_ble_eq_true rfl) ?_
    show V E _ (wdM E.G a0 q3.2) 16 [(0, .ref (a0 0)), (1, .int p1)] [.int q3.1]
    have h := Option.some.inj h
    subst h
    exact V_iret C (by decide +kernel) rfl
  · refine V_pb C hn [(.iconst 0, 1), (.istore_n 2, 1), (.iconst 0, 1), (.istore_n 3, 1)] (pc' := 21) (ls' := [(0, .ref (a0 0)), (1, .int p1), (2, .int (0 : Int32)), (3, .int (0 : Int32))]) (st' := []) (decB_ok (by decide +kernel)) rfl rfl ?_
    refine V_sub (ls' := [(0, .ref (a0 0)), (1, .int p1), (2, .int (0 : Int32)), (3, .int (0 : Int32))]) rfl ?_
    exact cfX5_hours_L21 C hn FU _ _ _ h
set_option maxRecDepth 100000 in
set_option maxHeartbeats 400000 in
theorem cfX5_seed {l : Launch} {G : GG} (a0 : Nat → Nat) {p1 : Int32} {S0 : MT} {out : Int32 × MT} (h : fX5_seed p1 S0 = some out) : Con l G 0 yX5_seed cX5_seed 3 (some .int) [.ref (a0 0), .int p1] (wdM G a0 S0) (some (.int out.1)) (wdM G a0 out.2) := by
  refine Con_of (by decide +kernel) (Nat.le_of_ble_eq_true rfl) (fun E hl hG hn C => ?_)
  subst hl
  subst hG
  have C : Ctx E cX5_seed RX5 0 (some .int) := C
  show V E _ _ 0 [(0, .ref (a0 0)), (1, .int p1)] []
  unfold fX5_seed at h
  refine V_pb C hn [(.aload_n 0, 1)] (pc' := 1) (ls' := [(0, .ref (a0 0)), (1, .int p1)]) (st' := [.ref (a0 0)]) (decB_ok (by decide +kernel)) rfl rfl ?_
  refine V_get C (v := .int (m_seed S0)) (by decide +kernel) 0 7 fk_RX5_57 rfl rfl ?_
  refine V_pb C hn [(.istore_n 2, 1), (.aload_n 0, 1), (.iload_n 1, 1)] (pc' := 7) (ls' := [(0, .ref (a0 0)), (1, .int p1), (2, .int (m_seed S0))]) (st' := [.int p1, .ref (a0 0)]) (decB_ok (by decide +kernel)) rfl rfl ?_
  refine V_put C (v := .int p1) (ws' := wdM E.G a0 (ms_seed S0 p1)) (by decide +kernel) 0 7 pk_RX5_57 rfl rfl rfl (Nat.le_of_ble_eq_true rfl) rfl ?_
  refine V_pb C hn [(.iload_n 2, 1)] (pc' := 11) (ls' := [(0, .ref (a0 0)), (1, .int p1), (2, .int (m_seed S0))]) (st' := [.int (m_seed S0)]) (decB_ok (by decide +kernel)) rfl rfl ?_
  have h := Option.some.inj h
  subst h
  exact V_iret C (by decide +kernel) rfl
set_option maxRecDepth 100000 in
set_option maxHeartbeats 400000 in
theorem cfX5_image {l : Launch} {G : GG} (a0 : Nat → Nat) {S0 : MT} {out : Int32 × MT} (h : fX5_image S0 = some out) : Con l G 1 yX5_image cX5_image 1 (some .int) [.ref (a0 0)] (wdM G a0 S0) (some (.int out.1)) (wdM G a0 out.2) := by
  refine Con_of (by decide +kernel) (Nat.le_of_ble_eq_true rfl) (fun E hl hG hn C => ?_)
  subst hl
  subst hG
  have C : Ctx E cX5_image RX5 1 (some .int) := C
  show V E _ _ 0 [(0, .ref (a0 0))] []
  unfold fX5_image at h
  refine V_pb C hn [(.aload_n 0, 1), (.iconst 1, 1)] (pc' := 2) (ls' := [(0, .ref (a0 0))]) (st' := [.int (1 : Int32), .ref (a0 0)]) (decB_ok (by decide +kernel)) rfl rfl ?_
  refine V_put C (v := .int (1 : Int32)) (ws' := wdM E.G a0 (ms_imaged S0 (1 : Int32))) (by decide +kernel) 0 18 pk_RX5_353 rfl rfl rfl (Nat.le_of_ble_eq_true rfl) rfl ?_
  refine V_pb C hn [(.aload_n 0, 1), (.aload_n 0, 1)] (pc' := 7) (ls' := [(0, .ref (a0 0))]) (st' := [.ref (a0 0), .ref (a0 0)]) (decB_ok (by decide +kernel)) rfl rfl ?_
  refine V_get C (v := .ref (a0 10)) (by decide +kernel) 0 19 fk_RX5_38 rfl rfl ?_
  obtain ⟨q1, h2, h⟩ := bnd h
  refine V_callV0 C (As := [.ref (a0 10)]) (rest := []) (by decide +kernel) ok_yX5_keep mk_RX5_178 (cfX5_keep_old (l := E.l) (G := E.G) a0 h2) (q0 := 0) rfl rfl rfl rfl rfl rfl (Nat.le_of_ble_eq_true rfl) (Nat.le_of_ble_eq_true rfl) (Nat.le_of_ble_eq_true rfl) ?_
  show V E _ (wdM E.G a0 q1) 13 [(0, .ref (a0 0))] []
  refine V_pb C hn [(.iconst 1, 1)] (pc' := 14) (ls' := [(0, .ref (a0 0))]) (st' := [.int (1 : Int32)]) (decB_ok (by decide +kernel)) rfl rfl ?_
  have h := Option.some.inj h
  subst h
  exact V_iret C (by decide +kernel) rfl
set_option maxRecDepth 100000 in
set_option maxHeartbeats 400000 in
theorem cfX5_back_j53 {E : VE} (C : Ctx E cX5_back RX5 1 (some .int)) (hn : E.nL = 2) {a0 : Nat → Nat} {v1 : Int32} {S0 : MT} {out : Int32 × MT} {k24 : Int32 → MT → Option (Int32 × MT)} (hk24 : ∀ (v1 : Int32) (S0 : MT), k24 v1 S0 = some out → V E (QR E (some (.int out.1)) (wdM E.G a0 out.2)) (wdM E.G a0 S0) 24 [(0, .ref (a0 0)), (1, .int v1)] []) (h : fX5_back_j53 k24 v1 S0 = some out) : V E (QR E (some (.int out.1)) (wdM E.G a0 out.2)) (wdM E.G a0 S0) 53 [(0, .ref (a0 0)), (1, .int v1)] [] := by
  unfold fX5_back_j53 at h
  refine V_pb C hn [(.iinc 1 1, 3)] (pc' := 56) (ls' := [(0, .ref (a0 0)), (1, .int (v1 + (1 : Int32)))]) (st' := []) (decB_ok (by decide +kernel)) rfl rfl ?_
  refine V_goto C (off := -32) (tgt := 24) (by decide +kernel) (by decide) ?_
  refine V_sub (ls' := [(0, .ref (a0 0)), (1, .int (v1 + (1 : Int32)))]) rfl ?_
  exact hk24 _ _ h
set_option maxRecDepth 100000 in
set_option maxHeartbeats 400000 in
theorem cfX5_back_L24 {E : VE} (C : Ctx E cX5_back RX5 1 (some .int)) (hn : E.nL = 2) {a0 : Nat → Nat} {out : Int32 × MT} : ∀ (n : Nat) (v1 : Int32) (S0 : MT), fX5_back_L24 n v1 S0 = some out → V E (QR E (some (.int out.1)) (wdM E.G a0 out.2)) (wdM E.G a0 S0) 24 [(0, .ref (a0 0)), (1, .int v1)] [] := by
  intro n
  induction n with
  | zero =>
    intro v1 S0 h
    cases h
  | succ n ih =>
    intro v1 S0 h
    unfold fX5_back_L24 at h
    refine V_pb C hn [(.iload_n 1, 1), (.bipush 8, 2)] (pc' := 27) (ls' := [(0, .ref (a0 0)), (1, .int v1)]) (st' := [.int (8 : Int32), .int v1]) (decB_ok (by decide +kernel)) rfl rfl ?_
    refine V_ic_ge C (off := 32) (tgt := 59) (by decide +kernel) (by decide) h (fun _ h => ?_) (fun _ h => ?_)
    · refine V_pb C hn [(.iconst 1, 1)] (pc' := 60) (ls' := [(0, .ref (a0 0)), (1, .int v1)]) (st' := [.int (1 : Int32)]) (decB_ok (by decide +kernel)) rfl rfl ?_
      have h := Option.some.inj h
      subst h
      exact V_iret C (by decide +kernel) rfl
    · refine V_pb C hn [(.aload_n 0, 1)] (pc' := 31) (ls' := [(0, .ref (a0 0)), (1, .int v1)]) (st' := [.ref (a0 0)]) (decB_ok (by decide +kernel)) rfl rfl ?_
      refine V_get C (v := .ref (a0 6)) (by decide +kernel) 0 14 fk_RX5_25 rfl rfl ?_
      refine V_pb C hn [(.iload_n 1, 1)] (pc' := 35) (ls' := [(0, .ref (a0 0)), (1, .int v1)]) (st' := [.int v1, .ref (a0 6)]) (decB_ok (by decide +kernel)) rfl rfl ?_
      refine V_iald C (f := (m_holding S0)) (by decide +kernel) 6 rfl h (fun h => ?_)
      refine V_pb C hn [(.bipush 10, 2), (.aload_n 0, 1)] (pc' := 39) (ls' := [(0, .ref (a0 0)), (1, .int v1)]) (st' := [.ref (a0 0), .int (10 : Int32), .int ((m_holding S0) (ix v1))]) (decB_ok (by decide +kernel)) rfl rfl ?_
      refine V_get C (v := .int (m_motes S0)) (by decide +kernel) 0 1 fk_RX5_60 rfl rfl ?_
      refine V_pb C hn [(.iadd, 1)] (pc' := 43) (ls' := [(0, .ref (a0 0)), (1, .int v1)]) (st' := [.int ((10 : Int32) + (m_motes S0)), .int ((m_holding S0) (ix v1))]) (decB_ok (by decide +kernel)) rfl rfl ?_
      refine V_ic_lt C (off := 10) (tgt := 53) (by decide +kernel) (by decide) h (fun _ h => ?_) (fun _ h => ?_)
      · refine V_sub (ls' := [(0, .ref (a0 0)), (1, .int v1)]) rfl ?_
        exact cfX5_back_j53 C hn (k24 := (fun v1 S0 => fX5_back_L24 n v1 S0)) (fun v1 S0 h => ih v1 S0 h) h
      · refine V_pb C hn [(.aload_n 0, 1)] (pc' := 47) (ls' := [(0, .ref (a0 0)), (1, .int v1)]) (st' := [.ref (a0 0)]) (decB_ok (by decide +kernel)) rfl rfl ?_
        refine V_get C (v := .ref (a0 6)) (by decide +kernel) 0 14 fk_RX5_25 rfl rfl ?_
        refine V_pb C hn [(.iload_n 1, 1), (.iconst (-1), 1)] (pc' := 52) (ls' := [(0, .ref (a0 0)), (1, .int v1)]) (st' := [.int (cI (-1)), .int v1, .ref (a0 6)]) (decB_ok (by decide +kernel)) rfl rfl ?_
        obtain ⟨x5, e6, h⟩ := bnd h
        refine V_topi e6 ?_
        refine V_iast C (f := (m_holding S0)) (ws' := wdM E.G a0 (ms_holding S0 (upd (m_holding S0) (ix v1) x5))) (by decide +kernel) 6 rfl h rfl (fun h => ?_)
        refine V_sub (ls' := [(0, .ref (a0 0)), (1, .int v1)]) rfl ?_
        exact cfX5_back_j53 C hn (k24 := (fun v1 S0 => fX5_back_L24 n v1 S0)) (fun v1 S0 h => ih v1 S0 h) h
set_option maxRecDepth 100000 in
set_option maxHeartbeats 400000 in
theorem cfX5_back {l : Launch} {G : GG} (a0 : Nat → Nat) {S0 : MT} {out : Int32 × MT} (h : fX5_back S0 = some out) : Con l G 1 yX5_back cX5_back 2 (some .int) [.ref (a0 0)] (wdM G a0 S0) (some (.int out.1)) (wdM G a0 out.2) := by
  refine Con_of (by decide +kernel) (Nat.le_of_ble_eq_true rfl) (fun E hl hG hn C => ?_)
  subst hl
  subst hG
  have C : Ctx E cX5_back RX5 1 (some .int) := C
  show V E _ _ 0 [(0, .ref (a0 0))] []
  unfold fX5_back at h
  refine V_pb C hn [(.aload_n 0, 1)] (pc' := 1) (ls' := [(0, .ref (a0 0))]) (st' := [.ref (a0 0)]) (decB_ok (by decide +kernel)) rfl rfl ?_
  refine V_get C (v := .int (m_imaged S0)) (by decide +kernel) 0 18 fk_RX5_353 rfl rfl ?_
  refine V_if_ne C (off := 10) (tgt := 14) (by decide +kernel) (by decide) h (fun _ h => ?_) (fun _ h => ?_)
  · refine V_pb C hn [(.aload_n 0, 1), (.bipush (-5), 2)] (pc' := 10) (ls' := [(0, .ref (a0 0))]) (st' := [.int (cI (-5)), .ref (a0 0)]) (decB_ok (by decide +kernel)) rfl rfl ?_
    obtain ⟨q1, h2, h⟩ := bnd h
    refine V_callV0 C (As := [.int (cI (-5))]) (rest := []) (by decide +kernel) ok_yX5_no mk_RX5_77 (cfX5_no (l := E.l) (G := E.G) a0 h2) (q0 := 0) rfl rfl rfl rfl rfl rfl (Nat.le_of_ble_eq_true rfl) (Nat.le_of_ble_eq_true rfl) (Nat.le_of_ble_eq_true rfl) ?_
    show V E _ (wdM E.G a0 q1.2) 13 [(0, .ref (a0 0))] [.int q1.1]
    have h := Option.some.inj h
    subst h
    exact V_iret C (by decide +kernel) rfl
  · refine V_pb C hn [(.aload_n 0, 1), (.aload_n 0, 1)] (pc' := 16) (ls' := [(0, .ref (a0 0))]) (st' := [.ref (a0 0), .ref (a0 0)]) (decB_ok (by decide +kernel)) rfl rfl ?_
    refine V_get C (v := .ref (a0 10)) (by decide +kernel) 0 19 fk_RX5_38 rfl rfl ?_
    obtain ⟨q3, h4, h⟩ := bnd h
    refine V_callV0 C (As := [.ref (a0 10)]) (rest := []) (by decide +kernel) ok_yX5_again mk_RX5_186 (cfX5_again_old (l := E.l) (G := E.G) a0 h4) (q0 := 0) rfl rfl rfl rfl rfl rfl (Nat.le_of_ble_eq_true rfl) (Nat.le_of_ble_eq_true rfl) (Nat.le_of_ble_eq_true rfl) ?_
    show V E _ (wdM E.G a0 q3) 22 [(0, .ref (a0 0))] []
    refine V_pb C hn [(.iconst 0, 1), (.istore_n 1, 1)] (pc' := 24) (ls' := [(0, .ref (a0 0)), (1, .int (0 : Int32))]) (st' := []) (decB_ok (by decide +kernel)) rfl rfl ?_
    refine V_sub (ls' := [(0, .ref (a0 0)), (1, .int (0 : Int32))]) rfl ?_
    exact cfX5_back_L24 C hn FU _ _ h
set_option maxRecDepth 100000 in
set_option maxHeartbeats 400000 in
theorem cfX5_status_j123 {E : VE} (C : Ctx E cX5_status RX5 1 (some .int)) (hn : E.nL = 4) {a0 : Nat → Nat} {p1 : Int32} {S0 : MT} {out : Int32} (h : fX5_status_j123 p1 S0 = some out) : V E (QR E (some (.int out)) (wdM E.G a0 S0)) (wdM E.G a0 S0) 123 [(0, .ref (a0 0)), (1, .int p1)] [] := by
  unfold fX5_status_j123 at h
  refine V_pb C hn [(.iload_n 1, 1), (.iconst 3, 1), (.bipush 7, 2)] (pc' := 127) (ls' := [(0, .ref (a0 0)), (1, .int p1)]) (st' := [.int (7 : Int32), .int (3 : Int32), .int p1]) (decB_ok (by decide +kernel)) rfl rfl ?_
  obtain ⟨q1, h2, h⟩ := bnd h
  refine V_callSp C (As := [.int p1, .int (3 : Int32), .int (7 : Int32)]) (rest := []) (by decide +kernel) ok_yX5_within mk_RX5_63 (cfX5_within (l := E.l) (G := E.G) h2) [] rfl rfl rfl rfl (Nat.le_of_ble_eq_true rfl) (Nat.le_of_ble_eq_true rfl) (Nat.le_of_ble_eq_true rfl) ?_
  show V E _ (wdM E.G a0 S0) 130 [(0, .ref (a0 0)), (1, .int p1)] [.int q1]
  refine V_if_eq C (off := 12) (tgt := 142) (by decide +kernel) (by decide) h (fun _ h => ?_) (fun _ h => ?_)
  · refine V_pb C hn [(.iload_n 1, 1), (.bipush 12, 2), (.bipush 16, 2)] (pc' := 147) (ls' := [(0, .ref (a0 0)), (1, .int p1)]) (st' := [.int (16 : Int32), .int (12 : Int32), .int p1]) (decB_ok (by decide +kernel)) rfl rfl ?_
    obtain ⟨q3, h4, h⟩ := bnd h
    refine V_callSp C (As := [.int p1, .int (12 : Int32), .int (16 : Int32)]) (rest := []) (by decide +kernel) ok_yX5_within mk_RX5_63 (cfX5_within (l := E.l) (G := E.G) h4) [] rfl rfl rfl rfl (Nat.le_of_ble_eq_true rfl) (Nat.le_of_ble_eq_true rfl) (Nat.le_of_ble_eq_true rfl) ?_
    show V E _ (wdM E.G a0 S0) 150 [(0, .ref (a0 0)), (1, .int p1)] [.int q3]
    refine V_if_eq C (off := 15) (tgt := 165) (by decide +kernel) (by decide) h (fun _ h => ?_) (fun _ h => ?_)
    · refine V_pb C hn [(.iconst (-1), 1)] (pc' := 166) (ls' := [(0, .ref (a0 0)), (1, .int p1)]) (st' := [.int (cI (-1))]) (decB_ok (by decide +kernel)) rfl rfl ?_
      have h := Option.some.inj h
      subst h
      exact V_iret C (by decide +kernel) rfl
    · refine V_pb C hn [(.aload_n 0, 1)] (pc' := 154) (ls' := [(0, .ref (a0 0)), (1, .int p1)]) (st' := [.ref (a0 0)]) (decB_ok (by decide +kernel)) rfl rfl ?_
      refine V_get C (v := .ref (a0 9)) (by decide +kernel) 0 17 fk_RX5_35 rfl rfl ?_
      refine V_pb C hn [(.iload_n 1, 1), (.bipush 10, 2), (.isub, 1)] (pc' := 161) (ls' := [(0, .ref (a0 0)), (1, .int p1)]) (st' := [.int (p1 - (10 : Int32)), .ref (a0 9)]) (decB_ok (by decide +kernel)) rfl rfl ?_
      refine V_iald C (f := (m_refusals S0)) (by decide +kernel) 9 rfl h (fun h => ?_)
      refine V_goto C (off := 4) (tgt := 166) (by decide +kernel) (by decide) ?_
      have h := Option.some.inj h
      subst h
      exact V_iret C (by decide +kernel) rfl
  · refine V_pb C hn [(.aload_n 0, 1)] (pc' := 134) (ls' := [(0, .ref (a0 0)), (1, .int p1)]) (st' := [.ref (a0 0)]) (decB_ok (by decide +kernel)) rfl rfl ?_
    refine V_get C (v := .ref (a0 4)) (by decide +kernel) 0 6 fk_RX5_19 rfl rfl ?_
    refine V_pb C hn [(.iload_n 1, 1), (.iconst 3, 1), (.isub, 1)] (pc' := 140) (ls' := [(0, .ref (a0 0)), (1, .int p1)]) (st' := [.int (p1 - (3 : Int32)), .ref (a0 4)]) (decB_ok (by decide +kernel)) rfl rfl ?_
    refine V_iald C (f := (m_ways S0)) (by decide +kernel) 4 rfl h (fun h => ?_)
    have h := Option.some.inj h
    subst h
    exact V_iret C (by decide +kernel) rfl
set_option maxRecDepth 100000 in
set_option maxHeartbeats 400000 in
theorem cfX5_status_j115 {E : VE} (C : Ctx E cX5_status RX5 1 (some .int)) (hn : E.nL = 4) {a0 : Nat → Nat} {p1 : Int32} {S0 : MT} {v2 : Int32} {v3 : Int32} {out : Int32} {k96 : Int32 → Int32 → Option (Int32)} (hk96 : ∀ (v2 : Int32) (v3 : Int32), k96 v2 v3 = some out → V E (QR E (some (.int out)) (wdM E.G a0 S0)) (wdM E.G a0 S0) 96 [(0, .ref (a0 0)), (2, .int v2), (3, .int v3)] []) (h : fX5_status_j115 k96 p1 S0 v2 v3 = some out) : V E (QR E (some (.int out)) (wdM E.G a0 S0)) (wdM E.G a0 S0) 115 [(0, .ref (a0 0)), (2, .int v2), (3, .int v3)] [] := by
  unfold fX5_status_j115 at h
  refine V_pb C hn [(.iinc 3 1, 3)] (pc' := 118) (ls' := [(0, .ref (a0 0)), (2, .int v2), (3, .int (v3 + (1 : Int32)))]) (st' := []) (decB_ok (by decide +kernel)) rfl rfl ?_
  refine V_goto C (off := -22) (tgt := 96) (by decide +kernel) (by decide) ?_
  refine V_sub (ls' := [(0, .ref (a0 0)), (2, .int v2), (3, .int (v3 + (1 : Int32)))]) rfl ?_
  exact hk96 _ _ h
set_option maxRecDepth 100000 in
set_option maxHeartbeats 400000 in
theorem cfX5_status_L96 {E : VE} (C : Ctx E cX5_status RX5 1 (some .int)) (hn : E.nL = 4) {a0 : Nat → Nat} {p1 : Int32} {S0 : MT} {out : Int32} : ∀ (n : Nat) (v2 : Int32) (v3 : Int32), fX5_status_L96 p1 S0 n v2 v3 = some out → V E (QR E (some (.int out)) (wdM E.G a0 S0)) (wdM E.G a0 S0) 96 [(0, .ref (a0 0)), (2, .int v2), (3, .int v3)] [] := by
  intro n
  induction n with
  | zero =>
    intro v2 v3 h
    cases h
  | succ n ih =>
    intro v2 v3 h
    unfold fX5_status_L96 at h
    refine V_pb C hn [(.iload_n 3, 1), (.bipush 8, 2)] (pc' := 99) (ls' := [(0, .ref (a0 0)), (2, .int v2), (3, .int v3)]) (st' := [.int (8 : Int32), .int v3]) (decB_ok (by decide +kernel)) rfl rfl ?_
    refine V_ic_ge C (off := 22) (tgt := 121) (by decide +kernel) (by decide) h (fun _ h => ?_) (fun _ h => ?_)
    · refine V_pb C hn [(.iload_n 2, 1)] (pc' := 122) (ls' := [(0, .ref (a0 0)), (2, .int v2), (3, .int v3)]) (st' := [.int v2]) (decB_ok (by decide +kernel)) rfl rfl ?_
      have h := Option.some.inj h
      subst h
      exact V_iret C (by decide +kernel) rfl
    · refine V_pb C hn [(.aload_n 0, 1)] (pc' := 103) (ls' := [(0, .ref (a0 0)), (2, .int v2), (3, .int v3)]) (st' := [.ref (a0 0)]) (decB_ok (by decide +kernel)) rfl rfl ?_
      refine V_get C (v := .ref (a0 6)) (by decide +kernel) 0 14 fk_RX5_25 rfl rfl ?_
      refine V_pb C hn [(.iload_n 3, 1)] (pc' := 107) (ls' := [(0, .ref (a0 0)), (2, .int v2), (3, .int v3)]) (st' := [.int v3, .ref (a0 6)]) (decB_ok (by decide +kernel)) rfl rfl ?_
      refine V_iald C (f := (m_holding S0)) (by decide +kernel) 6 rfl h (fun h => ?_)
      refine V_pb C hn [(.iconst (-1), 1)] (pc' := 109) (ls' := [(0, .ref (a0 0)), (2, .int v2), (3, .int v3)]) (st' := [.int (cI (-1)), .int ((m_holding S0) (ix v3))]) (decB_ok (by decide +kernel)) rfl rfl ?_
      refine V_ic_eq C (off := 6) (tgt := 115) (by decide +kernel) (by decide) h (fun _ h => ?_) (fun _ h => ?_)
      · refine V_sub (ls' := [(0, .ref (a0 0)), (2, .int v2), (3, .int v3)]) rfl ?_
        exact cfX5_status_j115 C hn (k96 := (fun v2 v3 => fX5_status_L96 p1 S0 n v2 v3)) (fun v2 v3 h => ih v2 v3 h) h
      · refine V_pb C hn [(.iinc 2 1, 3)] (pc' := 115) (ls' := [(0, .ref (a0 0)), (2, .int (v2 + (1 : Int32))), (3, .int v3)]) (st' := []) (decB_ok (by decide +kernel)) rfl rfl ?_
        refine V_sub (ls' := [(0, .ref (a0 0)), (2, .int (v2 + (1 : Int32))), (3, .int v3)]) rfl ?_
        exact cfX5_status_j115 C hn (k96 := (fun v2 v3 => fX5_status_L96 p1 S0 n v2 v3)) (fun v2 v3 h => ih v2 v3 h) h
set_option maxRecDepth 100000 in
set_option maxHeartbeats 400000 in
theorem cfX5_status {l : Launch} {G : GG} (a0 : Nat → Nat) {p1 : Int32} {S0 : MT} {out : Int32} (h : fX5_status p1 S0 = some out) : Con l G 1 yX5_status cX5_status 4 (some .int) [.ref (a0 0), .int p1] (wdM G a0 S0) (some (.int out)) (wdM G a0 S0) := by
  refine Con_of (by decide +kernel) (Nat.le_of_ble_eq_true rfl) (fun E hl hG hn C => ?_)
  subst hl
  subst hG
  have C : Ctx E cX5_status RX5 1 (some .int) := C
  show V E _ _ 0 [(0, .ref (a0 0)), (1, .int p1)] []
  unfold fX5_status at h
  refine V_pb C hn [(.iconst 0, 1), (.istore_n 2, 1), (.iload_n 1, 1)] (pc' := 3) (ls' := [(0, .ref (a0 0)), (1, .int p1), (2, .int (0 : Int32))]) (st' := [.int p1]) (decB_ok (by decide +kernel)) rfl rfl ?_
  refine V_sw (0) ?_
  refine Sw_at C (dflt := 120) (lo := 0) (hi := 11) (offs := #[61, 66, 71, 120, 120, 120, 120, 120, 76, 81, 86, 91]) (len := 61) (off := 61) (v := (0 : Int32)) (tgt := 64) (by decide +kernel) (by decide) (by decide) (by decide) rfl (by decide) h (fun _ h => ?_) (fun _ h => ?_)
  · refine V_pb C hn [(.aload_n 0, 1)] (pc' := 65) (ls' := [(0, .ref (a0 0)), (1, .int p1), (2, .int (0 : Int32))]) (st' := [.ref (a0 0)]) (decB_ok (by decide +kernel)) rfl rfl ?_
    refine V_get C (v := .int (m_motes S0)) (by decide +kernel) 0 1 fk_RX5_60 rfl rfl ?_
    have h := Option.some.inj h
    subst h
    exact V_iret C (by decide +kernel) rfl
  refine Sw_at C (dflt := 120) (lo := 0) (hi := 11) (offs := #[61, 66, 71, 120, 120, 120, 120, 120, 76, 81, 86, 91]) (len := 61) (off := 66) (v := (1 : Int32)) (tgt := 69) (by decide +kernel) (by decide) (by decide) (by decide) rfl (by decide) h (fun _ h => ?_) (fun _ h => ?_)
  · refine V_pb C hn [(.aload_n 0, 1)] (pc' := 70) (ls' := [(0, .ref (a0 0)), (1, .int p1), (2, .int (0 : Int32))]) (st' := [.ref (a0 0)]) (decB_ok (by decide +kernel)) rfl rfl ?_
    refine V_get C (v := .int (m_n S0)) (by decide +kernel) 0 0 fk_RX5_53 rfl rfl ?_
    have h := Option.some.inj h
    subst h
    exact V_iret C (by decide +kernel) rfl
  refine Sw_at C (dflt := 120) (lo := 0) (hi := 11) (offs := #[61, 66, 71, 120, 120, 120, 120, 120, 76, 81, 86, 91]) (len := 61) (off := 71) (v := (2 : Int32)) (tgt := 74) (by decide +kernel) (by decide) (by decide) (by decide) rfl (by decide) h (fun _ h => ?_) (fun _ h => ?_)
  · refine V_pb C hn [(.aload_n 0, 1)] (pc' := 75) (ls' := [(0, .ref (a0 0)), (1, .int p1), (2, .int (0 : Int32))]) (st' := [.ref (a0 0)]) (decB_ok (by decide +kernel)) rfl rfl ?_
    refine V_get C (v := .int (m_doors S0)) (by decide +kernel) 0 5 fk_RX5_109 rfl rfl ?_
    have h := Option.some.inj h
    subst h
    exact V_iret C (by decide +kernel) rfl
  refine Sw_at C (dflt := 120) (lo := 0) (hi := 11) (offs := #[61, 66, 71, 120, 120, 120, 120, 120, 76, 81, 86, 91]) (len := 61) (off := 120) (v := (3 : Int32)) (tgt := 123) (by decide +kernel) (by decide) (by decide) (by decide) rfl (by decide) h (fun _ h => ?_) (fun _ h => ?_)
  · refine V_sub (ls' := [(0, .ref (a0 0)), (1, .int p1)]) rfl ?_
    exact cfX5_status_j123 C hn h
  refine Sw_at C (dflt := 120) (lo := 0) (hi := 11) (offs := #[61, 66, 71, 120, 120, 120, 120, 120, 76, 81, 86, 91]) (len := 61) (off := 120) (v := (4 : Int32)) (tgt := 123) (by decide +kernel) (by decide) (by decide) (by decide) rfl (by decide) h (fun _ h => ?_) (fun _ h => ?_)
  · refine V_sub (ls' := [(0, .ref (a0 0)), (1, .int p1)]) rfl ?_
    exact cfX5_status_j123 C hn h
  refine Sw_at C (dflt := 120) (lo := 0) (hi := 11) (offs := #[61, 66, 71, 120, 120, 120, 120, 120, 76, 81, 86, 91]) (len := 61) (off := 120) (v := (5 : Int32)) (tgt := 123) (by decide +kernel) (by decide) (by decide) (by decide) rfl (by decide) h (fun _ h => ?_) (fun _ h => ?_)
  · refine V_sub (ls' := [(0, .ref (a0 0)), (1, .int p1)]) rfl ?_
    exact cfX5_status_j123 C hn h
  refine Sw_at C (dflt := 120) (lo := 0) (hi := 11) (offs := #[61, 66, 71, 120, 120, 120, 120, 120, 76, 81, 86, 91]) (len := 61) (off := 120) (v := (6 : Int32)) (tgt := 123) (by decide +kernel) (by decide) (by decide) (by decide) rfl (by decide) h (fun _ h => ?_) (fun _ h => ?_)
  · refine V_sub (ls' := [(0, .ref (a0 0)), (1, .int p1)]) rfl ?_
    exact cfX5_status_j123 C hn h
  refine Sw_at C (dflt := 120) (lo := 0) (hi := 11) (offs := #[61, 66, 71, 120, 120, 120, 120, 120, 76, 81, 86, 91]) (len := 61) (off := 120) (v := (7 : Int32)) (tgt := 123) (by decide +kernel) (by decide) (by decide) (by decide) rfl (by decide) h (fun _ h => ?_) (fun _ h => ?_)
  · refine V_sub (ls' := [(0, .ref (a0 0)), (1, .int p1)]) rfl ?_
    exact cfX5_status_j123 C hn h
  refine Sw_at C (dflt := 120) (lo := 0) (hi := 11) (offs := #[61, 66, 71, 120, 120, 120, 120, 120, 76, 81, 86, 91]) (len := 61) (off := 76) (v := (8 : Int32)) (tgt := 79) (by decide +kernel) (by decide) (by decide) (by decide) rfl (by decide) h (fun _ h => ?_) (fun _ h => ?_)
  · refine V_pb C hn [(.aload_n 0, 1)] (pc' := 80) (ls' := [(0, .ref (a0 0)), (1, .int p1), (2, .int (0 : Int32))]) (st' := [.ref (a0 0)]) (decB_ok (by decide +kernel)) rfl rfl ?_
    obtain ⟨q5, h6, h⟩ := bnd h
    refine V_callV0 C (As := []) (rest := []) (by decide +kernel) ok_yX5_allWeight mk_RX5_216 (cfX5_allWeight (l := E.l) (G := E.G) a0 h6) (q0 := 0) rfl rfl rfl rfl rfl rfl (Nat.le_of_ble_eq_true rfl) (Nat.le_of_ble_eq_true rfl) (Nat.le_of_ble_eq_true rfl) ?_
    show V E _ (wdM E.G a0 S0) 83 [(0, .ref (a0 0)), (1, .int p1), (2, .int (0 : Int32))] [.int q5]
    have h := Option.some.inj h
    subst h
    exact V_iret C (by decide +kernel) rfl
  refine Sw_at C (dflt := 120) (lo := 0) (hi := 11) (offs := #[61, 66, 71, 120, 120, 120, 120, 120, 76, 81, 86, 91]) (len := 61) (off := 81) (v := (9 : Int32)) (tgt := 84) (by decide +kernel) (by decide) (by decide) (by decide) rfl (by decide) h (fun _ h => ?_) (fun _ h => ?_)
  · refine V_pb C hn [(.aload_n 0, 1)] (pc' := 85) (ls' := [(0, .ref (a0 0)), (1, .int p1), (2, .int (0 : Int32))]) (st' := [.ref (a0 0)]) (decB_ok (by decide +kernel)) rfl rfl ?_
    refine V_get C (v := .int (m_taped S0)) (by decide +kernel) 0 8 fk_RX5_119 rfl rfl ?_
    have h := Option.some.inj h
    subst h
    exact V_iret C (by decide +kernel) rfl
  refine Sw_at C (dflt := 120) (lo := 0) (hi := 11) (offs := #[61, 66, 71, 120, 120, 120, 120, 120, 76, 81, 86, 91]) (len := 61) (off := 86) (v := (10 : Int32)) (tgt := 89) (by decide +kernel) (by decide) (by decide) (by decide) rfl (by decide) h (fun _ h => ?_) (fun _ h => ?_)
  · refine V_pb C hn [(.aload_n 0, 1)] (pc' := 90) (ls' := [(0, .ref (a0 0)), (1, .int p1), (2, .int (0 : Int32))]) (st' := [.ref (a0 0)]) (decB_ok (by decide +kernel)) rfl rfl ?_
    refine V_get C (v := .int (m_seed S0)) (by decide +kernel) 0 7 fk_RX5_57 rfl rfl ?_
    have h := Option.some.inj h
    subst h
    exact V_iret C (by decide +kernel) rfl
  refine Sw_at C (dflt := 120) (lo := 0) (hi := 11) (offs := #[61, 66, 71, 120, 120, 120, 120, 120, 76, 81, 86, 91]) (len := 61) (off := 91) (v := (11 : Int32)) (tgt := 94) (by decide +kernel) (by decide) (by decide) (by decide) rfl (by decide) h (fun _ h => ?_) (fun _ h => ?_)
  · refine V_pb C hn [(.iconst 0, 1), (.istore_n 3, 1)] (pc' := 96) (ls' := [(0, .ref (a0 0)), (1, .int p1), (2, .int (0 : Int32)), (3, .int (0 : Int32))]) (st' := []) (decB_ok (by decide +kernel)) rfl rfl ?_
    refine V_sub (ls' := [(0, .ref (a0 0)), (2, .int (0 : Int32)), (3, .int (0 : Int32))]) rfl ?_
    exact cfX5_status_L96 C hn FU _ _ h
  refine Sw_end C (dflt := 120) (lo := 0) (hi := 11) (offs := #[61, 66, 71, 120, 120, 120, 120, 120, 76, 81, 86, 91]) (len := 61) (tgt := 123) (by decide +kernel) (by decide) (by decide) ?_
  refine V_sub (ls' := [(0, .ref (a0 0)), (1, .int p1)]) rfl ?_
  exact cfX5_status_j123 C hn h
