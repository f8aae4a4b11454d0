set_option maxRecDepth 100000 in
set_option maxHeartbeats 400000 in
theorem cfJ7_fill_d0a16_L6 {E : VE} (C : Ctx E cJ7_fill_d0a16 RJ7 0 none) (hn : E.nL = 5) {a0 : Nat → Nat} {p1 : Int64} {out : (Nat → Int64)} : ∀ (n : Nat) (v3 : Int32) (v4 : Int32) (S0 : (Nat → Int64)), fJ7_fill_d0a16_L6 p1 n v3 v4 S0 = some out → V E (QR E none (wdL E.G a0 out)) (wdL E.G a0 S0) 6 [(0, .ref (a0 0)), (1, .long p1), (3, .int v3), (4, .int v4)] [] := by
  intro n
  induction n with
  | zero =>
    intro v3 v4 S0 h
    cases h
  | succ n ih =>
    intro v3 v4 S0 h
    unfold fJ7_fill_d0a16_L6 at h
    refine V_pb C hn [(.iload_n 3, 1), (.iload 4, 2)] (pc' := 9) (ls' := [(0, .ref (a0 0)), (1, .long p1), (3, .int v3), (4, .int v4)]) (st' := [.int v4, .int v3]) (decB_ok (by decide +kernel)) rfl rfl ?_
    refine V_ic_ge C (off := 13) (tgt := 22) (by decide +kernel) (by decide) h (fun _ h => ?_) (fun _ h => ?_)
    · have h := Option.some.inj h
      subst h
      exact V_vret C (by decide +kernel)
    · refine V_pb C hn [(.aload_n 0, 1), (.iload_n 3, 1), (.lload_n 1, 1)] (pc' := 15) (ls' := [(0, .ref (a0 0)), (1, .long p1), (3, .int v3), (4, .int v4)]) (st' := [.long p1, .int v3, .ref (a0 0)]) (decB_ok (by decide +kernel)) rfl rfl ?_
      refine V_last C (f := S0) (ws' := wdL E.G a0 (vp_updL S0 (ix v3) p1)) (by decide +kernel) 0 rfl h rfl (fun h => ?_)
      refine V_pb C hn [(.iinc 3 1, 3)] (pc' := 19) (ls' := [(0, .ref (a0 0)), (1, .long p1), (3, .int (v3 + (1 : Int32))), (4, .int v4)]) (st' := []) (decB_ok (by decide +kernel)) rfl rfl ?_
      refine V_goto C (off := -13) (tgt := 6) (by decide +kernel) (by decide) ?_
      refine V_sub (ls' := [(0, .ref (a0 0)), (1, .long p1), (3, .int (v3 + (1 : Int32))), (4, .int v4)]) rfl ?_
      exact ih _ _ _ h
set_option maxRecDepth 100000 in
set_option maxHeartbeats 400000 in
theorem cfJ7_fill_d0a16 {l : Launch} {G : GG} (a0 : Nat → Nat) {p1 : Int64} {S0 : (Nat → Int64)} {out : (Nat → Int64)} (h : fJ7_fill_d0a16 p1 S0 = some out) : Con l G 0 yJ7_fill_d0a16 cJ7_fill_d0a16 5 none [.ref (a0 0), .long p1] (wdL G a0 S0) none (wdL G a0 out) := by
  refine Con_of (by decide +kernel) (Nat.le_of_ble_eq_true rfl) (fun E hl hG hn C => ?_)
  subst hl
  subst hG
  have C : Ctx E cJ7_fill_d0a16 RJ7 0 none := C
  show V E _ _ 0 [(0, .ref (a0 0)), (1, .long p1)] []
  unfold fJ7_fill_d0a16 at h
  refine V_pb C hn [(.iconst 0, 1), (.istore_n 3, 1), (.aload_n 0, 1)] (pc' := 3) (ls' := [(0, .ref (a0 0)), (1, .long p1), (3, .int (0 : Int32))]) (st' := [.ref (a0 0)]) (decB_ok (by decide +kernel)) rfl rfl ?_
  refine V_alen C (v := (40 : Int32)) (by decide +kernel) 0 1 rfl rfl rfl ?_
  refine V_pb C hn [(.istore 4, 2)] (pc' := 6) (ls' := [(0, .ref (a0 0)), (1, .long p1), (3, .int (0 : Int32)), (4, .int (40 : Int32))]) (st' := []) (decB_ok (by decide +kernel)) rfl rfl ?_
  refine V_sub (ls' := [(0, .ref (a0 0)), (1, .long p1), (3, .int (0 : Int32)), (4, .int (40 : Int32))]) rfl ?_
  exact cfJ7_fill_d0a16_L6 C hn FU _ _ _ h
set_option maxRecDepth 100000 in
set_option maxHeartbeats 400000 in
theorem cfJ6_compare_7cf53 {l : Launch} {G : GG} {p0 : Int32} {p1 : Int32} {out : Int32} (h : fJ6_compare_7cf53 p0 p1 = some out) : Con l G 0 yJ6_compare_7cf53 cJ6_compare_7cf53 2 (some .int) [.int p0, .int p1] (([] : va_W)) (some (.int out)) (([] : va_W)) := by
  refine Con_of (by decide +kernel) (Nat.le_of_ble_eq_true rfl) (fun E hl hG hn C => ?_)
  subst hl
  subst hG
  have C : Ctx E cJ6_compare_7cf53 RJ6 0 (some .int) := C
  show V E _ _ 0 [(0, .int p0), (1, .int p1)] []
  unfold fJ6_compare_7cf53 at h
  refine V_pb C hn [(.iload_n 0, 1), (.iload_n 1, 1)] (pc' := 2) (ls' := [(0, .int p0), (1, .int p1)]) (st' := [.int p1, .int p0]) (decB_ok (by decide +kernel)) rfl rfl ?_
  refine V_ic_ge C (off := 7) (tgt := 9) (by decide +kernel) (by decide) h (fun _ h => ?_) (fun _ h => ?_)
  · refine V_pb C hn [(.iload_n 0, 1), (.iload_n 1, 1)] (pc' := 11) (ls' := [(0, .int p0), (1, .int p1)]) (st' := [.int p1, .int p0]) (decB_ok (by decide +kernel)) rfl rfl ?_
    refine V_ic_ne C (off := 7) (tgt := 18) (by decide +kernel) (by decide) h (fun _ h => ?_) (fun _ h => ?_)
    · refine V_pb C hn [(.iconst 0, 1)] (pc' := 15) (ls' := [(0, .int p0), (1, .int p1)]) (st' := [.int (0 : Int32)]) (decB_ok (by decide +kernel)) rfl rfl ?_
      refine V_goto C (off := 4) (tgt := 19) (by decide +kernel) (by decide) ?_
      have h := Option.some.inj h
      subst h
      exact V_iret C (by decide +kernel) rfl
    · refine V_pb C hn [(.iconst 1, 1)] (pc' := 19) (ls' := [(0, .int p0), (1, .int p1)]) (st' := [.int (1 : Int32)]) (decB_ok (by decide +kernel)) rfl rfl ?_
      have h := Option.some.inj h
      subst h
      exact V_iret C (by decide +kernel) rfl
  · refine V_pb C hn [(.iconst (-1), 1)] (pc' := 6) (ls' := [(0, .int p0), (1, .int p1)]) (st' := [.int (cI (-1))]) (decB_ok (by decide +kernel)) rfl rfl ?_
    refine V_goto C (off := 13) (tgt := 19) (by decide +kernel) (by decide) ?_
    have h := Option.some.inj h
    subst h
    exact V_iret C (by decide +kernel) rfl
set_option maxRecDepth 100000 in
set_option maxHeartbeats 400000 in
theorem cfJ7_fill_53178_L5 {E : VE} (C : Ctx E cJ7_fill_53178 RJ7 0 none) (hn : E.nL = 4) {a0 : Nat → Nat} {p1 : Int32} {out : (Nat → Int32)} : ∀ (n : Nat) (v2 : Int32) (v3 : Int32) (S0 : (Nat → Int32)), fJ7_fill_53178_L5 p1 n v2 v3 S0 = some out → V E (QR E none (wdI E.G a0 out)) (wdI E.G a0 S0) 5 [(0, .ref (a0 0)), (1, .int p1), (2, .int v2), (3, .int v3)] [] := by
  intro n
  induction n with
  | zero =>
    intro v2 v3 S0 h
    cases h
  | succ n ih =>
    intro v2 v3 S0 h
    unfold fJ7_fill_53178_L5 at h
    refine V_pb C hn [(.iload_n 2, 1), (.iload_n 3, 1)] (pc' := 7) (ls' := [(0, .ref (a0 0)), (1, .int p1), (2, .int v2), (3, .int v3)]) (st' := [.int v3, .int v2]) (decB_ok (by decide +kernel)) rfl rfl ?_
    refine V_ic_ge C (off := 13) (tgt := 20) (by decide +kernel) (by decide) h (fun _ h => ?_) (fun _ h => ?_)
    · have h := Option.some.inj h
      subst h
      exact V_vret C (by decide +kernel)
    · refine V_pb C hn [(.aload_n 0, 1), (.iload_n 2, 1), (.iload_n 1, 1)] (pc' := 13) (ls' := [(0, .ref (a0 0)), (1, .int p1), (2, .int v2), (3, .int v3)]) (st' := [.int p1, .int v2, .ref (a0 0)]) (decB_ok (by decide +kernel)) rfl rfl ?_
      refine V_iast C (f := S0) (ws' := wdI E.G a0 (upd S0 (ix v2) p1)) (by decide +kernel) 0 rfl h rfl (fun h => ?_)
      refine V_pb C hn [(.iinc 2 1, 3)] (pc' := 17) (ls' := [(0, .ref (a0 0)), (1, .int p1), (2, .int (v2 + (1 : Int32))), (3, .int v3)]) (st' := []) (decB_ok (by decide +kernel)) rfl rfl ?_
      refine V_goto C (off := -12) (tgt := 5) (by decide +kernel) (by decide) ?_
      refine V_sub (ls' := [(0, .ref (a0 0)), (1, .int p1), (2, .int (v2 + (1 : Int32))), (3, .int v3)]) rfl ?_
      exact ih _ _ _ h
set_option maxRecDepth 100000 in
set_option maxHeartbeats 400000 in
theorem cfJ7_fill_53178 {l : Launch} {G : GG} (a0 : Nat → Nat) {p1 : Int32} {S0 : (Nat → Int32)} {out : (Nat → Int32)} (h : fJ7_fill_53178 p1 S0 = some out) : Con l G 0 yJ7_fill_53178 cJ7_fill_53178 4 none [.ref (a0 0), .int p1] (wdI G a0 S0) none (wdI G a0 out) := by
  refine Con_of (by decide +kernel) (Nat.le_of_ble_eq_true rfl) (fun E hl hG hn C => ?_)
  subst hl
  subst hG
  have C : Ctx E cJ7_fill_53178 RJ7 0 none := C
  show V E _ _ 0 [(0, .ref (a0 0)), (1, .int p1)] []
  unfold fJ7_fill_53178 at h
  refine V_pb C hn [(.iconst 0, 1), (.istore_n 2, 1), (.aload_n 0, 1)] (pc' := 3) (ls' := [(0, .ref (a0 0)), (1, .int p1), (2, .int (0 : Int32))]) (st' := [.ref (a0 0)]) (decB_ok (by decide +kernel)) rfl rfl ?_
  refine V_alen C (v := (91 : Int32)) (by decide +kernel) 0 0 rfl rfl rfl ?_
  refine V_pb C hn [(.istore_n 3, 1)] (pc' := 5) (ls' := [(0, .ref (a0 0)), (1, .int p1), (2, .int (0 : Int32)), (3, .int (91 : Int32))]) (st' := []) (decB_ok (by decide +kernel)) rfl rfl ?_
  refine V_sub (ls' := [(0, .ref (a0 0)), (1, .int p1), (2, .int (0 : Int32)), (3, .int (91 : Int32))]) rfl ?_
  exact cfJ7_fill_53178_L5 C hn FU _ _ _ h
set_option maxRecDepth 100000 in
set_option maxHeartbeats 400000 in
theorem cfJ13_bitCount_95d88 {l : Launch} {G : GG} {p0 : Int64} {out : Int32} (h : fJ13_bitCount_95d88 p0 = some out) : Con l G 0 yJ13_bitCount_95d88 cJ13_bitCount_95d88 2 (some .int) [.long p0] (([] : va_W)) (some (.int out)) (([] : va_W)) := by
  refine Con_of (by decide +kernel) (Nat.le_of_ble_eq_true rfl) (fun E hl hG hn C => ?_)
  subst hl
  subst hG
  have C : Ctx E cJ13_bitCount_95d88 RJ13 0 (some .int) := C
  show V E _ _ 0 [(0, .long p0)] []
  unfold fJ13_bitCount_95d88 at h
  refine V_pb C hn [(.lload_n 0, 1), (.lload_n 0, 1), (.iconst 1, 1), (.lushr, 1)] (pc' := 4) (ls' := [(0, .long p0)]) (st' := [.long (jlushr p0 (1 : Int32)), .long p0]) (decB_ok (by decide +kernel)) rfl rfl ?_
  refine V_ldc2 C (by decide +kernel) kk_RJ13_314 ?_
  refine V_pb C hn [(.land, 1), (.lsub, 1), (.lstore_n 0, 1), (.lload_n 0, 1)] (pc' := 11) (ls' := [(0, .long (p0 - ((jlushr p0 (1 : Int32)) &&& (6148914691236517205 : Int64))))]) (st' := [.long (p0 - ((jlushr p0 (1 : Int32)) &&& (6148914691236517205 : Int64)))]) (decB_ok (by decide +kernel)) rfl rfl ?_
  refine V_ldc2 C (by decide +kernel) kk_RJ13_316 ?_
  refine V_pb C hn [(.land, 1), (.lload_n 0, 1), (.iconst 2, 1), (.lushr, 1)] (pc' := 18) (ls' := [(0, .long (p0 - ((jlushr p0 (1 : Int32)) &&& (6148914691236517205 : Int64))))]) (st' := [.long (jlushr (p0 - ((jlushr p0 (1 : Int32)) &&& (6148914691236517205 : Int64))) (2 : Int32)), .long ((p0 - ((jlushr p0 (1 : Int32)) &&& (6148914691236517205 : Int64))) &&& (3689348814741910323 : Int64))]) (decB_ok (by decide +kernel)) rfl rfl ?_
  refine V_ldc2 C (by decide +kernel) kk_RJ13_316 ?_
  refine V_pb C hn [(.land, 1), (.ladd, 1), (.lstore_n 0, 1), (.lload_n 0, 1), (.lload_n 0, 1), (.iconst 4, 1), (.lushr, 1), (.ladd, 1)] (pc' := 29) (ls' := [(0, .long (((p0 - ((jlushr p0 (1 : Int32)) &&& (6148914691236517205 : Int64))) &&& (3689348814741910323 : Int64)) + ((jlushr (p0 - ((jlushr p0 (1 : Int32)) &&& (6148914691236517205 : Int64))) (2 : Int32)) &&& (3689348814741910323 : Int64))))]) (st' := [.long ((((p0 - ((jlushr p0 (1 : Int32)) &&& (6148914691236517205 : Int64))) &&& (3689348814741910323 : Int64)) + ((jlushr (p0 - ((jlushr p0 (1 : Int32)) &&& (6148914691236517205 : Int64))) (2 : Int32)) &&& (3689348814741910323 : Int64))) + (jlushr (((p0 - ((jlushr p0 (1 : Int32)) &&& (6148914691236517205 : Int64))) &&& (3689348814741910323 : Int64)) + ((jlushr (p0 - ((jlushr p0 (1 : Int32)) &&& (6148914691236517205 : Int64))) (2 : Int32)) &&& (3689348814741910323 : Int64))) (4 : Int32)))]) (decB_ok (by decide +kernel)) rfl rfl ?_
  refine V_ldc2 C (by decide +kernel) kk_RJ13_318 ?_
  refine V_pb C hn [(.land, 1), (.lstore_n 0, 1), (.lload_n 0, 1), (.lload_n 0, 1), (.bipush 8, 2), (.lushr, 1), (.ladd, 1), (.lstore_n 0, 1), (.lload_n 0, 1), (.lload_n 0, 1), (.bipush 16, 2), (.lushr, 1), (.ladd, 1), (.lstore_n 0, 1), (.lload_n 0, 1), (.lload_n 0, 1), (.bipush 32, 2), (.lushr, 1), (.ladd, 1), (.lstore_n 0, 1), (.lload_n 0, 1), (.l2i, 1), (.bipush 127, 2), (.iand, 1)] (pc' := 60) (ls' := [(0, .long ((((((((p0 - ((jlushr p0 (1 : Int32)) &&& (6148914691236517205 : Int64))) &&& (3689348814741910323 : Int64)) + ((jlushr (p0 - ((jlushr p0 (1 : Int32)) &&& (6148914691236517205 : Int64))) (2 : Int32)) &&& (3689348814741910323 : Int64))) + (jlushr (((p0 - ((jlushr p0 (1 : Int32)) &&& (6148914691236517205 : Int64))) &&& (3689348814741910323 : Int64)) + ((jlushr (p0 - ((jlushr p0 (1 : Int32)) &&& (6148914691236517205 : Int64))) (2 : Int32)) &&& (3689348814741910323 : Int64))) (4 : Int32))) &&& (1085102592571150095 : Int64)) + (jlushr (((((p0 - ((jlushr p0 (1 : Int32)) &&& (6148914691236517205 : Int64))) &&& (3689348814741910323 : Int64)) + ((jlushr (p0 - ((jlushr p0 (1 : Int32)) &&& (6148914691236517205 : Int64))) (2 : Int32)) &&& (3689348814741910323 : Int64))) + (jlushr (((p0 - ((jlushr p0 (1 : Int32)) &&& (6148914691236517205 : Int64))) &&& (3689348814741910323 : Int64)) + ((jlushr (p0 - ((jlushr p0 (1 : Int32)) &&& (6148914691236517205 : Int64))) (2 : Int32)) &&& (3689348814741910323 : Int64))) (4 : Int32))) &&& (1085102592571150095 : Int64)) (8 : Int32))) + (jlushr ((((((p0 - ((jlushr p0 (1 : Int32)) &&& (6148914691236517205 : Int64))) &&& (3689348814741910323 : Int64)) + ((jlushr (p0 - ((jlushr p0 (1 : Int32)) &&& (6148914691236517205 : Int64))) (2 : Int32)) &&& (3689348814741910323 : Int64))) + (jlushr (((p0 - ((jlushr p0 (1 : Int32)) &&& (6148914691236517205 : Int64))) &&& (3689348814741910323 : Int64)) + ((jlushr (p0 - ((jlushr p0 (1 : Int32)) &&& (6148914691236517205 : Int64))) (2 : Int32)) &&& (3689348814741910323 : Int64))) (4 : Int32))) &&& (1085102592571150095 : Int64)) + (jlushr (((((p0 - ((jlushr p0 (1 : Int32)) &&& (6148914691236517205 : Int64))) &&& (3689348814741910323 : Int64)) + ((jlushr (p0 - ((jlushr p0 (1 : Int32)) &&& (6148914691236517205 : Int64))) (2 : Int32)) &&& (3689348814741910323 : Int64))) + (jlushr (((p0 - ((jlushr p0 (1 : Int32)) &&& (6148914691236517205 : Int64))) &&& (3689348814741910323 : Int64)) + ((jlushr (p0 - ((jlushr p0 (1 : Int32)) &&& (6148914691236517205 : Int64))) (2 : Int32)) &&& (3689348814741910323 : Int64))) (4 : Int32))) &&& (1085102592571150095 : Int64)) (8 : Int32))) (16 : Int32))) + (jlushr (((((((p0 - ((jlushr p0 (1 : Int32)) &&& (6148914691236517205 : Int64))) &&& (3689348814741910323 : Int64)) + ((jlushr (p0 - ((jlushr p0 (1 : Int32)) &&& (6148914691236517205 : Int64))) (2 : Int32)) &&& (3689348814741910323 : Int64))) + (jlushr (((p0 - ((jlushr p0 (1 : Int32)) &&& (6148914691236517205 : Int64))) &&& (3689348814741910323 : Int64)) + ((jlushr (p0 - ((jlushr p0 (1 : Int32)) &&& (6148914691236517205 : Int64))) (2 : Int32)) &&& (3689348814741910323 : Int64))) (4 : Int32))) &&& (1085102592571150095 : Int64)) + (jlushr (((((p0 - ((jlushr p0 (1 : Int32)) &&& (6148914691236517205 : Int64))) &&& (3689348814741910323 : Int64)) + ((jlushr (p0 - ((jlushr p0 (1 : Int32)) &&& (6148914691236517205 : Int64))) (2 : Int32)) &&& (3689348814741910323 : Int64))) + (jlushr (((p0 - ((jlushr p0 (1 : Int32)) &&& (6148914691236517205 : Int64))) &&& (3689348814741910323 : Int64)) + ((jlushr (p0 - ((jlushr p0 (1 : Int32)) &&& (6148914691236517205 : Int64))) (2 : Int32)) &&& (3689348814741910323 : Int64))) (4 : Int32))) &&& (1085102592571150095 : Int64)) (8 : Int32))) + (jlushr ((((((p0 - ((jlushr p0 (1 : Int32)) &&& (6148914691236517205 : Int64))) &&& (3689348814741910323 : Int64)) + ((jlushr (p0 - ((jlushr p0 (1 : Int32)) &&& (6148914691236517205 : Int64))) (2 : Int32)) &&& (3689348814741910323 : Int64))) + (jlushr (((p0 - ((jlushr p0 (1 : Int32)) &&& (6148914691236517205 : Int64))) &&& (3689348814741910323 : Int64)) + ((jlushr (p0 - ((jlushr p0 (1 : Int32)) &&& (6148914691236517205 : Int64))) (2 : Int32)) &&& (3689348814741910323 : Int64))) (4 : Int32))) &&& (1085102592571150095 : Int64)) + (jlushr (((((p0 - ((jlushr p0 (1 : Int32)) &&& (6148914691236517205 : Int64))) &&& (3689348814741910323 : Int64)) + ((jlushr (p0 - ((jlushr p0 (1 : Int32)) &&& (6148914691236517205 : Int64))) (2 : Int32)) &&& (3689348814741910323 : Int64))) + (jlushr (((p0 - ((jlushr p0 (1 : Int32)) &&& (6148914691236517205 : Int64))) &&& (3689348814741910323 : Int64)) + ((jlushr (p0 - ((jlushr p0 (1 : Int32)) &&& (6148914691236517205 : Int64))) (2 : Int32)) &&& (3689348814741910323 : Int64))) (4 : Int32))) &&& (1085102592571150095 : Int64)) (8 : Int32))) (16 : Int32))) (32 : Int32))))]) (st' := [.int (((((((((p0 - ((jlushr p0 (1 : Int32)) &&& (6148914691236517205 : Int64))) &&& (3689348814741910323 : Int64)) + ((jlushr (p0 - ((jlushr p0 (1 : Int32)) &&& (6148914691236517205 : Int64))) (2 : Int32)) &&& (3689348814741910323 : Int64))) + (jlushr (((p0 - ((jlushr p0 (1 : Int32)) &&& (6148914691236517205 : Int64))) &&& (3689348814741910323 : Int64)) + ((jlushr (p0 - ((jlushr p0 (1 : Int32)) &&& (6148914691236517205 : Int64))) (2 : Int32)) &&& (3689348814741910323 : Int64))) (4 : Int32))) &&& (1085102592571150095 : Int64)) + (jlushr (((((p0 - ((jlushr p0 (1 : Int32)) &&& (6148914691236517205 : Int64))) &&& (3689348814741910323 : Int64)) + ((jlushr (p0 - ((jlushr p0 (1 : Int32)) &&& (6148914691236517205 : Int64))) (2 : Int32)) &&& (3689348814741910323 : Int64))) + (jlushr (((p0 - ((jlushr p0 (1 : Int32)) &&& (6148914691236517205 : Int64))) &&& (3689348814741910323 : Int64)) + ((jlushr (p0 - ((jlushr p0 (1 : Int32)) &&& (6148914691236517205 : Int64))) (2 : Int32)) &&& (3689348814741910323 : Int64))) (4 : Int32))) &&& (1085102592571150095 : Int64)) (8 : Int32))) + (jlushr ((((((p0 - ((jlushr p0 (1 : Int32)) &&& (6148914691236517205 : Int64))) &&& (3689348814741910323 : Int64)) + ((jlushr (p0 - ((jlushr p0 (1 : Int32)) &&& (6148914691236517205 : Int64))) (2 : Int32)) &&& (3689348814741910323 : Int64))) + (jlushr (((p0 - ((jlushr p0 (1 : Int32)) &&& (6148914691236517205 : Int64))) &&& (3689348814741910323 : Int64)) + ((jlushr (p0 - ((jlushr p0 (1 : Int32)) &&& (6148914691236517205 : Int64))) (2 : Int32)) &&& (3689348814741910323 : Int64))) (4 : Int32))) &&& (1085102592571150095 : Int64)) + (jlushr (((((p0 - ((jlushr p0 (1 : Int32)) &&& (6148914691236517205 : Int64))) &&& (3689348814741910323 : Int64)) + ((jlushr (p0 - ((jlushr p0 (1 : Int32)) &&& (6148914691236517205 : Int64))) (2 : Int32)) &&& (3689348814741910323 : Int64))) + (jlushr (((p0 - ((jlushr p0 (1 : Int32)) &&& (6148914691236517205 : Int64))) &&& (3689348814741910323 : Int64)) + ((jlushr (p0 - ((jlushr p0 (1 : Int32)) &&& (6148914691236517205 : Int64))) (2 : Int32)) &&& (3689348814741910323 : Int64))) (4 : Int32))) &&& (1085102592571150095 : Int64)) (8 : Int32))) (16 : Int32))) + (jlushr (((((((p0 - ((jlushr p0 (1 : Int32)) &&& (6148914691236517205 : Int64))) &&& (3689348814741910323 : Int64)) + ((jlushr (p0 - ((jlushr p0 (1 : Int32)) &&& (6148914691236517205 : Int64))) (2 : Int32)) &&& (3689348814741910323 : Int64))) + (jlushr (((p0 - ((jlushr p0 (1 : Int32)) &&& (6148914691236517205 : Int64))) &&& (3689348814741910323 : Int64)) + ((jlushr (p0 - ((jlushr p0 (1 : Int32)) &&& (6148914691236517205 : Int64))) (2 : Int32)) &&& (3689348814741910323 : Int64))) (4 : Int32))) &&& (1085102592571150095 : Int64)) + (jlushr (((((p0 - ((jlushr p0 (1 : Int32)) &&& (6148914691236517205 : Int64))) &&& (3689348814741910323 : Int64)) + ((jlushr (p0 - ((jlushr p0 (1 : Int32)) &&& (6148914691236517205 : Int64))) (2 : Int32)) &&& (3689348814741910323 : Int64))) + (jlushr (((p0 - ((jlushr p0 (1 : Int32)) &&& (6148914691236517205 : Int64))) &&& (3689348814741910323 : Int64)) + ((jlushr (p0 - ((jlushr p0 (1 : Int32)) &&& (6148914691236517205 : Int64))) (2 : Int32)) &&& (3689348814741910323 : Int64))) (4 : Int32))) &&& (1085102592571150095 : Int64)) (8 : Int32))) + (jlushr ((((((p0 - ((jlushr p0 (1 : Int32)) &&& (6148914691236517205 : Int64))) &&& (3689348814741910323 : Int64)) + ((jlushr (p0 - ((jlushr p0 (1 : Int32)) &&& (6148914691236517205 : Int64))) (2 : Int32)) &&& (3689348814741910323 : Int64))) + (jlushr (((p0 - ((jlushr p0 (1 : Int32)) &&& (6148914691236517205 : Int64))) &&& (3689348814741910323 : Int64)) + ((jlushr (p0 - ((jlushr p0 (1 : Int32)) &&& (6148914691236517205 : Int64))) (2 : Int32)) &&& (3689348814741910323 : Int64))) (4 : Int32))) &&& (1085102592571150095 : Int64)) + (jlushr (((((p0 - ((jlushr p0 (1 : Int32)) &&& (6148914691236517205 : Int64))) &&& (3689348814741910323 : Int64)) + ((jlushr (p0 - ((jlushr p0 (1 : Int32)) &&& (6148914691236517205 : Int64))) (2 : Int32)) &&& (3689348814741910323 : Int64))) + (jlushr (((p0 - ((jlushr p0 (1 : Int32)) &&& (6148914691236517205 : Int64))) &&& (3689348814741910323 : Int64)) + ((jlushr (p0 - ((jlushr p0 (1 : Int32)) &&& (6148914691236517205 : Int64))) (2 : Int32)) &&& (3689348814741910323 : Int64))) (4 : Int32))) &&& (1085102592571150095 : Int64)) (8 : Int32))) (16 : Int32))) (32 : Int32))).toInt32 &&& (127 : Int32))]) (decB_ok (by decide +kernel)) rfl rfl ?_
  have h := Option.some.inj h
  subst h
  exact V_iret C (by decide +kernel) rfl
set_option maxRecDepth 100000 in
set_option maxHeartbeats 400000 in
theorem cfJ6_bitCount_0f7a4 {l : Launch} {G : GG} {p0 : Int32} {out : Int32} (h : fJ6_bitCount_0f7a4 p0 = some out) : Con l G 0 yJ6_bitCount_0f7a4 cJ6_bitCount_0f7a4 1 (some .int) [.int p0] (([] : va_W)) (some (.int out)) (([] : va_W)) := by
  refine Con_of (by decide +kernel) (Nat.le_of_ble_eq_true rfl) (fun E hl hG hn C => ?_)
  subst hl
  subst hG
  have C : Ctx E cJ6_bitCount_0f7a4 RJ6 0 (some .int) := C
  show V E _ _ 0 [(0, .int p0)] []
  unfold fJ6_bitCount_0f7a4 at h
  refine V_pb C hn [(.iload_n 0, 1), (.iload_n 0, 1), (.iconst 1, 1), (.iushr, 1)] (pc' := 4) (ls' := [(0, .int p0)]) (st' := [.int (jushr p0 (1 : Int32)), .int p0]) (decB_ok (by decide +kernel)) rfl rfl ?_
  refine V_ldcw C (by decide +kernel) kk_RJ6_265 ?_
  refine V_pb C hn [(.iand, 1), (.isub, 1), (.istore_n 0, 1), (.iload_n 0, 1)] (pc' := 11) (ls' := [(0, .int (p0 - ((jushr p0 (1 : Int32)) &&& (1431655765 : Int32))))]) (st' := [.int (p0 - ((jushr p0 (1 : Int32)) &&& (1431655765 : Int32)))]) (decB_ok (by decide +kernel)) rfl rfl ?_
  refine V_ldcw C (by decide +kernel) kk_RJ6_266 ?_
  refine V_pb C hn [(.iand, 1), (.iload_n 0, 1), (.iconst 2, 1), (.iushr, 1)] (pc' := 18) (ls' := [(0, .int (p0 - ((jushr p0 (1 : Int32)) &&& (1431655765 : Int32))))]) (st' := [.int (jushr (p0 - ((jushr p0 (1 : Int32)) &&& (1431655765 : Int32))) (2 : Int32)), .int ((p0 - ((jushr p0 (1 : Int32)) &&& (1431655765 : Int32))) &&& (858993459 : Int32))]) (decB_ok (by decide +kernel)) rfl rfl ?_
  refine V_ldcw C (by decide +kernel) kk_RJ6_266 ?_
  refine V_pb C hn [(.iand, 1), (.iadd, 1), (.istore_n 0, 1), (.iload_n 0, 1), (.iload_n 0, 1), (.iconst 4, 1), (.iushr, 1), (.iadd, 1)] (pc' := 29) (ls' := [(0, .int (((p0 - ((jushr p0 (1 : Int32)) &&& (1431655765 : Int32))) &&& (858993459 : Int32)) + ((jushr (p0 - ((jushr p0 (1 : Int32)) &&& (1431655765 : Int32))) (2 : Int32)) &&& (858993459 : Int32))))]) (st' := [.int ((((p0 - ((jushr p0 (1 : Int32)) &&& (1431655765 : Int32))) &&& (858993459 : Int32)) + ((jushr (p0 - ((jushr p0 (1 : Int32)) &&& (1431655765 : Int32))) (2 : Int32)) &&& (858993459 : Int32))) + (jushr (((p0 - ((jushr p0 (1 : Int32)) &&& (1431655765 : Int32))) &&& (858993459 : Int32)) + ((jushr (p0 - ((jushr p0 (1 : Int32)) &&& (1431655765 : Int32))) (2 : Int32)) &&& (858993459 : Int32))) (4 : Int32)))]) (decB_ok (by decide +kernel)) rfl rfl ?_
  refine V_ldcw C (by decide +kernel) kk_RJ6_267 ?_
  refine V_pb C hn [(.iand, 1), (.istore_n 0, 1), (.iload_n 0, 1), (.iload_n 0, 1), (.bipush 8, 2), (.iushr, 1), (.iadd, 1), (.istore_n 0, 1), (.iload_n 0, 1), (.iload_n 0, 1), (.bipush 16, 2), (.iushr, 1), (.iadd, 1), (.istore_n 0, 1), (.iload_n 0, 1), (.bipush 63, 2), (.iand, 1)] (pc' := 52) (ls' := [(0, .int (((((((p0 - ((jushr p0 (1 : Int32)) &&& (1431655765 : Int32))) &&& (858993459 : Int32)) + ((jushr (p0 - ((jushr p0 (1 : Int32)) &&& (1431655765 : Int32))) (2 : Int32)) &&& (858993459 : Int32))) + (jushr (((p0 - ((jushr p0 (1 : Int32)) &&& (1431655765 : Int32))) &&& (858993459 : Int32)) + ((jushr (p0 - ((jushr p0 (1 : Int32)) &&& (1431655765 : Int32))) (2 : Int32)) &&& (858993459 : Int32))) (4 : Int32))) &&& (252645135 : Int32)) + (jushr (((((p0 - ((jushr p0 (1 : Int32)) &&& (1431655765 : Int32))) &&& (858993459 : Int32)) + ((jushr (p0 - ((jushr p0 (1 : Int32)) &&& (1431655765 : Int32))) (2 : Int32)) &&& (858993459 : Int32))) + (jushr (((p0 - ((jushr p0 (1 : Int32)) &&& (1431655765 : Int32))) &&& (858993459 : Int32)) + ((jushr (p0 - ((jushr p0 (1 : Int32)) &&& (1431655765 : Int32))) (2 : Int32)) &&& (858993459 : Int32))) (4 : Int32))) &&& (252645135 : Int32)) (8 : Int32))) + (jushr ((((((p0 - ((jushr p0 (1 : Int32)) &&& (1431655765 : Int32))) &&& (858993459 : Int32)) + ((jushr (p0 - ((jushr p0 (1 : Int32)) &&& (1431655765 : Int32))) (2 : Int32)) &&& (858993459 : Int32))) + (jushr (((p0 - ((jushr p0 (1 : Int32)) &&& (1431655765 : Int32))) &&& (858993459 : Int32)) + ((jushr (p0 - ((jushr p0 (1 : Int32)) &&& (1431655765 : Int32))) (2 : Int32)) &&& (858993459 : Int32))) (4 : Int32))) &&& (252645135 : Int32)) + (jushr (((((p0 - ((jushr p0 (1 : Int32)) &&& (1431655765 : Int32))) &&& (858993459 : Int32)) + ((jushr (p0 - ((jushr p0 (1 : Int32)) &&& (1431655765 : Int32))) (2 : Int32)) &&& (858993459 : Int32))) + (jushr (((p0 - ((jushr p0 (1 : Int32)) &&& (1431655765 : Int32))) &&& (858993459 : Int32)) + ((jushr (p0 - ((jushr p0 (1 : Int32)) &&& (1431655765 : Int32))) (2 : Int32)) &&& (858993459 : Int32))) (4 : Int32))) &&& (252645135 : Int32)) (8 : Int32))) (16 : Int32))))]) (st' := [.int ((((((((p0 - ((jushr p0 (1 : Int32)) &&& (1431655765 : Int32))) &&& (858993459 : Int32)) + ((jushr (p0 - ((jushr p0 (1 : Int32)) &&& (1431655765 : Int32))) (2 : Int32)) &&& (858993459 : Int32))) + (jushr (((p0 - ((jushr p0 (1 : Int32)) &&& (1431655765 : Int32))) &&& (858993459 : Int32)) + ((jushr (p0 - ((jushr p0 (1 : Int32)) &&& (1431655765 : Int32))) (2 : Int32)) &&& (858993459 : Int32))) (4 : Int32))) &&& (252645135 : Int32)) + (jushr (((((p0 - ((jushr p0 (1 : Int32)) &&& (1431655765 : Int32))) &&& (858993459 : Int32)) + ((jushr (p0 - ((jushr p0 (1 : Int32)) &&& (1431655765 : Int32))) (2 : Int32)) &&& (858993459 : Int32))) + (jushr (((p0 - ((jushr p0 (1 : Int32)) &&& (1431655765 : Int32))) &&& (858993459 : Int32)) + ((jushr (p0 - ((jushr p0 (1 : Int32)) &&& (1431655765 : Int32))) (2 : Int32)) &&& (858993459 : Int32))) (4 : Int32))) &&& (252645135 : Int32)) (8 : Int32))) + (jushr ((((((p0 - ((jushr p0 (1 : Int32)) &&& (1431655765 : Int32))) &&& (858993459 : Int32)) + ((jushr (p0 - ((jushr p0 (1 : Int32)) &&& (1431655765 : Int32))) (2 : Int32)) &&& (858993459 : Int32))) + (jushr (((p0 - ((jushr p0 (1 : Int32)) &&& (1431655765 : Int32))) &&& (858993459 : Int32)) + ((jushr (p0 - ((jushr p0 (1 : Int32)) &&& (1431655765 : Int32))) (2 : Int32)) &&& (858993459 : Int32))) (4 : Int32))) &&& (252645135 : Int32)) + (jushr (((((p0 - ((jushr p0 (1 : Int32)) &&& (1431655765 : Int32))) &&& (858993459 : Int32)) + ((jushr (p0 - ((jushr p0 (1 : Int32)) &&& (1431655765 : Int32))) (2 : Int32)) &&& (858993459 : Int32))) + (jushr (((p0 - ((jushr p0 (1 : Int32)) &&& (1431655765 : Int32))) &&& (858993459 : Int32)) + ((jushr (p0 - ((jushr p0 (1 : Int32)) &&& (1431655765 : Int32))) (2 : Int32)) &&& (858993459 : Int32))) (4 : Int32))) &&& (252645135 : Int32)) (8 : Int32))) (16 : Int32))) &&& (63 : Int32))]) (decB_ok (by decide +kernel)) rfl rfl ?_
  have h := Option.some.inj h
  subst h
  exact V_iret C (by decide +kernel) rfl
