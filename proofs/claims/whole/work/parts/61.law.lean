/-! ===== the law: every case (written by wip/law/gen60.py) ===== -/
theorem lc_row {E : VE} {Q : State → Prop} {b L i : Nat} {xs : Nat → Int32} {a a2 : Nat → Nat} {S : XT} {M : MT} (C : Ctx E code RL 30 ret) (hn : E.nL = 4) (hX : Scr E b L xs) (hi : i + 6 ≤ L) (hL : L ≤ 3072) (hR : Rel S M) (hk : ∀ S M, Rel S M → V E Q (wdX E.G a S ++ wdM E.G a2 M) 1873 (lls b (a 0) (a2 0) i) []) : V E Q (wdX E.G a S ++ wdM E.G a2 M) 264 (lls b (a 0) (a2 0) i) [] := by
  obtain ⟨r, S', M', e1, e2, hR'⟩ := c_row (p1 := xs (i + 1)) (p2 := xs (i + 2)) (p3 := xs (i + 3)) hR
  refine V_pb C hn [(.aload_n 1, 1)] (pc' := 265) (ls' := lls b (a 0) (a2 0) i) (st' := [.ref (a 0)]) (decB_ok (by decide +kernel)) rfl rfl ?_
  refine V_arg C hn hX hi hL 1 (by omega) (decB_ok (by decide +kernel)) ?_
  refine V_arg C hn hX hi hL 2 (by omega) (decB_ok (by decide +kernel)) ?_
  refine V_arg C hn hX hi hL 3 (by omega) (decB_ok (by decide +kernel)) ?_
  refine V_callL C (As := [.int (xs (i + 1)), .int (xs (i + 2)), .int (xs (i + 3))]) (rest := []) (by decide +kernel) ok_yX4_row mk_RL_13 (cfX4_row (l := E.l) (G := E.G) a e1) (q0 := 0) rfl rfl rfl rfl rfl rfl (Nat.le_of_ble_eq_true rfl) (Nat.le_of_ble_eq_true rfl) (Nat.le_of_ble_eq_true rfl) ?_
  show V E _ (wdX E.G a S' ++ wdM E.G a2 M) 283 (lls b (a 0) (a2 0) i) [.int r]
  refine V_pb C hn [(.aload_n 2, 1)] (pc' := 284) (ls' := lls b (a 0) (a2 0) i) (st' := [.ref (a2 0), .int r]) (decB_ok (by decide +kernel)) rfl rfl ?_
  refine V_arg C hn hX hi hL 1 (by omega) (decB_ok (by decide +kernel)) ?_
  refine V_arg C hn hX hi hL 2 (by omega) (decB_ok (by decide +kernel)) ?_
  refine V_arg C hn hX hi hL 3 (by omega) (decB_ok (by decide +kernel)) ?_
  refine V_callR C (As := [.int (xs (i + 1)), .int (xs (i + 2)), .int (xs (i + 3))]) (rest := [.int r]) (by decide +kernel) ok_yX5_row mk_RL_17 (cfX5_row (l := E.l) (G := E.G) a2 e2) (q0 := 0) rfl rfl rfl rfl rfl rfl (Nat.le_of_ble_eq_true rfl) (Nat.le_of_ble_eq_true rfl) (Nat.le_of_ble_eq_true rfl) ?_
  show V E _ (wdX E.G a S' ++ wdM E.G a2 M') 302 (lls b (a 0) (a2 0) i) [.int r, .int r]
  exact V_ic_eq C (off := 1571) (tgt := 1873) (by decide +kernel) (by decide) (o1 := some ()) (o2 := none) (out := ()) (if_pos rfl) (fun _ _ => hk _ _ hR') (fun q _ => absurd rfl q)
theorem lc_set {E : VE} {Q : State → Prop} {b L i : Nat} {xs : Nat → Int32} {a a2 : Nat → Nat} {S : XT} {M : MT} (C : Ctx E code RL 30 ret) (hn : E.nL = 4) (hX : Scr E b L xs) (hi : i + 6 ≤ L) (hL : L ≤ 3072) (hR : Rel S M) (hk : ∀ S M, Rel S M → V E Q (wdX E.G a S ++ wdM E.G a2 M) 1873 (lls b (a 0) (a2 0) i) []) : V E Q (wdX E.G a S ++ wdM E.G a2 M) 307 (lls b (a 0) (a2 0) i) [] := by
  obtain ⟨r, S', M', e1, e2, hR'⟩ := c_set (p1 := xs (i + 1)) (p2 := xs (i + 2)) (v := (jlshl ((xs (i + 3)).toInt64) (32 : Int32)) ||| (((xs (i + 4)).toInt64) &&& ((4294967295 : Int64)))) hR
  refine V_pb C hn [(.aload_n 1, 1)] (pc' := 308) (ls' := lls b (a 0) (a2 0) i) (st' := [.ref (a 0)]) (decB_ok (by decide +kernel)) rfl rfl ?_
  refine V_arg C hn hX hi hL 1 (by omega) (decB_ok (by decide +kernel)) ?_
  refine V_arg C hn hX hi hL 2 (by omega) (decB_ok (by decide +kernel)) ?_
  refine V_arg C hn hX hi hL 3 (by omega) (decB_ok (by decide +kernel)) ?_
  refine V_pb C hn [(.i2l, 1)] (pc' := 324) (ls' := lls b (a 0) (a2 0) i) (st' := [.long (xs (i + 3)).toInt64, .int (xs (i + 2)), .int (xs (i + 1)), .ref (a 0)]) (decB_ok (by decide +kernel)) rfl rfl ?_
  refine V_pb C hn [(.bipush 32, 2)] (pc' := 326) (ls' := lls b (a 0) (a2 0) i) (st' := [.int (32 : Int32), .long (xs (i + 3)).toInt64, .int (xs (i + 2)), .int (xs (i + 1)), .ref (a 0)]) (decB_ok (by decide +kernel)) rfl rfl ?_
  refine V_pb C hn [(.lshl, 1)] (pc' := 327) (ls' := lls b (a 0) (a2 0) i) (st' := [.long (jlshl ((xs (i + 3)).toInt64) (32 : Int32)), .int (xs (i + 2)), .int (xs (i + 1)), .ref (a 0)]) (decB_ok (by decide +kernel)) rfl rfl ?_
  refine V_arg C hn hX hi hL 4 (by omega) (decB_ok (by decide +kernel)) ?_
  refine V_pb C hn [(.i2l, 1)] (pc' := 333) (ls' := lls b (a 0) (a2 0) i) (st' := [.long (xs (i + 4)).toInt64, .long (jlshl ((xs (i + 3)).toInt64) (32 : Int32)), .int (xs (i + 2)), .int (xs (i + 1)), .ref (a 0)]) (decB_ok (by decide +kernel)) rfl rfl ?_
  refine V_ldc2 C (v := (4294967295 : Int64)) (by decide +kernel) kk_RL_18 ?_
  refine V_pb C hn [(.land, 1)] (pc' := 337) (ls' := lls b (a 0) (a2 0) i) (st' := [.long (((xs (i + 4)).toInt64) &&& ((4294967295 : Int64))), .long (jlshl ((xs (i + 3)).toInt64) (32 : Int32)), .int (xs (i + 2)), .int (xs (i + 1)), .ref (a 0)]) (decB_ok (by decide +kernel)) rfl rfl ?_
  refine V_pb C hn [(.lor, 1)] (pc' := 338) (ls' := lls b (a 0) (a2 0) i) (st' := [.long ((jlshl ((xs (i + 3)).toInt64) (32 : Int32)) ||| (((xs (i + 4)).toInt64) &&& ((4294967295 : Int64)))), .int (xs (i + 2)), .int (xs (i + 1)), .ref (a 0)]) (decB_ok (by decide +kernel)) rfl rfl ?_
  refine V_callL C (As := [.int (xs (i + 1)), .int (xs (i + 2)), .long ((jlshl ((xs (i + 3)).toInt64) (32 : Int32)) ||| (((xs (i + 4)).toInt64) &&& ((4294967295 : Int64))))]) (rest := []) (by decide +kernel) ok_yX4_set mk_RL_20 (cfX4_set (l := E.l) (G := E.G) a e1) (q0 := 0) rfl rfl rfl rfl rfl rfl (Nat.le_of_ble_eq_true rfl) (Nat.le_of_ble_eq_true rfl) (Nat.le_of_ble_eq_true rfl) ?_
  show V E _ (wdX E.G a S' ++ wdM E.G a2 M) 341 (lls b (a 0) (a2 0) i) [.int r]
  refine V_pb C hn [(.aload_n 2, 1)] (pc' := 342) (ls' := lls b (a 0) (a2 0) i) (st' := [.ref (a2 0), .int r]) (decB_ok (by decide +kernel)) rfl rfl ?_
  refine V_arg C hn hX hi hL 1 (by omega) (decB_ok (by decide +kernel)) ?_
  refine V_arg C hn hX hi hL 2 (by omega) (decB_ok (by decide +kernel)) ?_
  refine V_arg C hn hX hi hL 3 (by omega) (decB_ok (by decide +kernel)) ?_
  refine V_pb C hn [(.i2l, 1)] (pc' := 358) (ls' := lls b (a 0) (a2 0) i) (st' := [.long (xs (i + 3)).toInt64, .int (xs (i + 2)), .int (xs (i + 1)), .ref (a2 0), .int r]) (decB_ok (by decide +kernel)) rfl rfl ?_
  refine V_pb C hn [(.bipush 32, 2)] (pc' := 360) (ls' := lls b (a 0) (a2 0) i) (st' := [.int (32 : Int32), .long (xs (i + 3)).toInt64, .int (xs (i + 2)), .int (xs (i + 1)), .ref (a2 0), .int r]) (decB_ok (by decide +kernel)) rfl rfl ?_
  refine V_pb C hn [(.lshl, 1)] (pc' := 361) (ls' := lls b (a 0) (a2 0) i) (st' := [.long (jlshl ((xs (i + 3)).toInt64) (32 : Int32)), .int (xs (i + 2)), .int (xs (i + 1)), .ref (a2 0), .int r]) (decB_ok (by decide +kernel)) rfl rfl ?_
  refine V_arg C hn hX hi hL 4 (by omega) (decB_ok (by decide +kernel)) ?_
  refine V_pb C hn [(.i2l, 1)] (pc' := 367) (ls' := lls b (a 0) (a2 0) i) (st' := [.long (xs (i + 4)).toInt64, .long (jlshl ((xs (i + 3)).toInt64) (32 : Int32)), .int (xs (i + 2)), .int (xs (i + 1)), .ref (a2 0), .int r]) (decB_ok (by decide +kernel)) rfl rfl ?_
  refine V_ldc2 C (v := (4294967295 : Int64)) (by decide +kernel) kk_RL_18 ?_
  refine V_pb C hn [(.land, 1)] (pc' := 371) (ls' := lls b (a 0) (a2 0) i) (st' := [.long (((xs (i + 4)).toInt64) &&& ((4294967295 : Int64))), .long (jlshl ((xs (i + 3)).toInt64) (32 : Int32)), .int (xs (i + 2)), .int (xs (i + 1)), .ref (a2 0), .int r]) (decB_ok (by decide +kernel)) rfl rfl ?_
  refine V_pb C hn [(.lor, 1)] (pc' := 372) (ls' := lls b (a 0) (a2 0) i) (st' := [.long ((jlshl ((xs (i + 3)).toInt64) (32 : Int32)) ||| (((xs (i + 4)).toInt64) &&& ((4294967295 : Int64)))), .int (xs (i + 2)), .int (xs (i + 1)), .ref (a2 0), .int r]) (decB_ok (by decide +kernel)) rfl rfl ?_
  refine V_callR C (As := [.int (xs (i + 1)), .int (xs (i + 2)), .long ((jlshl ((xs (i + 3)).toInt64) (32 : Int32)) ||| (((xs (i + 4)).toInt64) &&& ((4294967295 : Int64))))]) (rest := [.int r]) (by decide +kernel) ok_yX5_set mk_RL_24 (cfX5_set (l := E.l) (G := E.G) a2 e2) (q0 := 0) rfl rfl rfl rfl rfl rfl (Nat.le_of_ble_eq_true rfl) (Nat.le_of_ble_eq_true rfl) (Nat.le_of_ble_eq_true rfl) ?_
  show V E _ (wdX E.G a S' ++ wdM E.G a2 M') 375 (lls b (a 0) (a2 0) i) [.int r, .int r]
  exact V_ic_eq C (off := 1498) (tgt := 1873) (by decide +kernel) (by decide) (o1 := some ()) (o2 := none) (out := ()) (if_pos rfl) (fun _ _ => hk _ _ hR') (fun q _ => absurd rfl q)
theorem lc_copy {E : VE} {Q : State → Prop} {b L i : Nat} {xs : Nat → Int32} {a a2 : Nat → Nat} {S : XT} {M : MT} (C : Ctx E code RL 30 ret) (hn : E.nL = 4) (hX : Scr E b L xs) (hi : i + 6 ≤ L) (hL : L ≤ 3072) (hR : Rel S M) (hk : ∀ S M, Rel S M → V E Q (wdX E.G a S ++ wdM E.G a2 M) 1873 (lls b (a 0) (a2 0) i) []) : V E Q (wdX E.G a S ++ wdM E.G a2 M) 380 (lls b (a 0) (a2 0) i) [] := by
  obtain ⟨r, S', M', e1, e2, hR'⟩ := c_copy (p1 := xs (i + 1)) (p2 := xs (i + 2)) (p3 := xs (i + 3)) (p4 := xs (i + 4)) (p5 := xs (i + 5)) hR
  refine V_pb C hn [(.aload_n 1, 1)] (pc' := 381) (ls' := lls b (a 0) (a2 0) i) (st' := [.ref (a 0)]) (decB_ok (by decide +kernel)) rfl rfl ?_
  refine V_arg C hn hX hi hL 1 (by omega) (decB_ok (by decide +kernel)) ?_
  refine V_arg C hn hX hi hL 2 (by omega) (decB_ok (by decide +kernel)) ?_
  refine V_arg C hn hX hi hL 3 (by omega) (decB_ok (by decide +kernel)) ?_
  refine V_arg C hn hX hi hL 4 (by omega) (decB_ok (by decide +kernel)) ?_
  refine V_arg C hn hX hi hL 5 (by omega) (decB_ok (by decide +kernel)) ?_
  refine V_callL C (As := [.int (xs (i + 1)), .int (xs (i + 2)), .int (xs (i + 3)), .int (xs (i + 4)), .int (xs (i + 5))]) (rest := []) (by decide +kernel) ok_yX4_copy mk_RL_25 (cfX4_copy (l := E.l) (G := E.G) a e1) (q0 := 0) rfl rfl rfl rfl rfl rfl (Nat.le_of_ble_eq_true rfl) (Nat.le_of_ble_eq_true rfl) (Nat.le_of_ble_eq_true rfl) ?_
  show V E _ (wdX E.G a S' ++ wdM E.G a2 M) 409 (lls b (a 0) (a2 0) i) [.int r]
  refine V_pb C hn [(.aload_n 2, 1)] (pc' := 410) (ls' := lls b (a 0) (a2 0) i) (st' := [.ref (a2 0), .int r]) (decB_ok (by decide +kernel)) rfl rfl ?_
  refine V_arg C hn hX hi hL 1 (by omega) (decB_ok (by decide +kernel)) ?_
  refine V_arg C hn hX hi hL 2 (by omega) (decB_ok (by decide +kernel)) ?_
  refine V_arg C hn hX hi hL 3 (by omega) (decB_ok (by decide +kernel)) ?_
  refine V_arg C hn hX hi hL 4 (by omega) (decB_ok (by decide +kernel)) ?_
  refine V_arg C hn hX hi hL 5 (by omega) (decB_ok (by decide +kernel)) ?_
  refine V_callR C (As := [.int (xs (i + 1)), .int (xs (i + 2)), .int (xs (i + 3)), .int (xs (i + 4)), .int (xs (i + 5))]) (rest := [.int r]) (by decide +kernel) ok_yX5_copy mk_RL_29 (cfX5_copy (l := E.l) (G := E.G) a2 e2) (q0 := 0) rfl rfl rfl rfl rfl rfl (Nat.le_of_ble_eq_true rfl) (Nat.le_of_ble_eq_true rfl) (Nat.le_of_ble_eq_true rfl) ?_
  show V E _ (wdX E.G a S' ++ wdM E.G a2 M') 438 (lls b (a 0) (a2 0) i) [.int r, .int r]
  exact V_ic_eq C (off := 1435) (tgt := 1873) (by decide +kernel) (by decide) (o1 := some ()) (o2 := none) (out := ()) (if_pos rfl) (fun _ _ => hk _ _ hR') (fun q _ => absurd rfl q)
theorem lc_element {E : VE} {Q : State → Prop} {b L i : Nat} {xs : Nat → Int32} {a a2 : Nat → Nat} {S : XT} {M : MT} (C : Ctx E code RL 30 ret) (hn : E.nL = 4) (hX : Scr E b L xs) (hi : i + 6 ≤ L) (hL : L ≤ 3072) (hR : Rel S M) (hk : ∀ S M, Rel S M → V E Q (wdX E.G a S ++ wdM E.G a2 M) 1873 (lls b (a 0) (a2 0) i) []) : V E Q (wdX E.G a S ++ wdM E.G a2 M) 443 (lls b (a 0) (a2 0) i) [] := by
  obtain ⟨r, e1, e2⟩ := c_element (p1 := xs (i + 1)) (p2 := xs (i + 2)) hR
  refine V_pb C hn [(.aload_n 1, 1)] (pc' := 444) (ls' := lls b (a 0) (a2 0) i) (st' := [.ref (a 0)]) (decB_ok (by decide +kernel)) rfl rfl ?_
  refine V_arg C hn hX hi hL 1 (by omega) (decB_ok (by decide +kernel)) ?_
  refine V_arg C hn hX hi hL 2 (by omega) (decB_ok (by decide +kernel)) ?_
  refine V_callL C (As := [.int (xs (i + 1)), .int (xs (i + 2))]) (rest := []) (by decide +kernel) ok_yX4_element mk_RL_30 (cfX4_element (l := E.l) (G := E.G) a e1) (q0 := 0) rfl rfl rfl rfl rfl rfl (Nat.le_of_ble_eq_true rfl) (Nat.le_of_ble_eq_true rfl) (Nat.le_of_ble_eq_true rfl) ?_
  show V E _ (wdX E.G a S ++ wdM E.G a2 M) 457 (lls b (a 0) (a2 0) i) [.long r]
  refine V_pb C hn [(.aload_n 2, 1)] (pc' := 458) (ls' := lls b (a 0) (a2 0) i) (st' := [.ref (a2 0), .long r]) (decB_ok (by decide +kernel)) rfl rfl ?_
  refine V_arg C hn hX hi hL 1 (by omega) (decB_ok (by decide +kernel)) ?_
  refine V_arg C hn hX hi hL 2 (by omega) (decB_ok (by decide +kernel)) ?_
  refine V_callR C (As := [.int (xs (i + 1)), .int (xs (i + 2))]) (rest := [.long r]) (by decide +kernel) ok_yX5_element mk_RL_34 (cfX5_element (l := E.l) (G := E.G) a2 e2) (q0 := 0) rfl rfl rfl rfl rfl rfl (Nat.le_of_ble_eq_true rfl) (Nat.le_of_ble_eq_true rfl) (Nat.le_of_ble_eq_true rfl) ?_
  show V E _ (wdX E.G a S ++ wdM E.G a2 M) 471 (lls b (a 0) (a2 0) i) [.long r, .long r]
  refine V_pb C hn [(.lcmp, 1)] (pc' := 472) (ls' := lls b (a 0) (a2 0) i) (st' := [.int (lg_cmp r r)]) (decB_ok (by decide +kernel)) rfl rfl ?_
  rw [show lg_cmp r r = (0 : Int32) from lg_self]
  exact V_if_eq C (off := 1401) (tgt := 1873) (by decide +kernel) (by decide) (o1 := some ()) (o2 := none) (out := ()) (if_pos rfl) (fun _ _ => hk _ _ hR) (fun q _ => absurd rfl q)
theorem lc_holds {E : VE} {Q : State → Prop} {b L i : Nat} {xs : Nat → Int32} {a a2 : Nat → Nat} {S : XT} {M : MT} (C : Ctx E code RL 30 ret) (hn : E.nL = 4) (hX : Scr E b L xs) (hi : i + 6 ≤ L) (hL : L ≤ 3072) (hR : Rel S M) (hk : ∀ S M, Rel S M → V E Q (wdX E.G a S ++ wdM E.G a2 M) 1873 (lls b (a 0) (a2 0) i) []) : V E Q (wdX E.G a S ++ wdM E.G a2 M) 477 (lls b (a 0) (a2 0) i) [] := by
  obtain ⟨r, e1, e2⟩ := c_holds (p1 := xs (i + 1)) hR
  refine V_pb C hn [(.aload_n 1, 1)] (pc' := 478) (ls' := lls b (a 0) (a2 0) i) (st' := [.ref (a 0)]) (decB_ok (by decide +kernel)) rfl rfl ?_
  refine V_arg C hn hX hi hL 1 (by omega) (decB_ok (by decide +kernel)) ?_
  refine V_callL C (As := [.int (xs (i + 1))]) (rest := []) (by decide +kernel) ok_yX4_holds mk_RL_35 (cfX4_holds (l := E.l) (G := E.G) a e1) (q0 := 0) rfl rfl rfl rfl rfl rfl (Nat.le_of_ble_eq_true rfl) (Nat.le_of_ble_eq_true rfl) (Nat.le_of_ble_eq_true rfl) ?_
  show V E _ (wdX E.G a S ++ wdM E.G a2 M) 486 (lls b (a 0) (a2 0) i) [.int r]
  refine V_pb C hn [(.aload_n 2, 1)] (pc' := 487) (ls' := lls b (a 0) (a2 0) i) (st' := [.ref (a2 0), .int r]) (decB_ok (by decide +kernel)) rfl rfl ?_
  refine V_arg C hn hX hi hL 1 (by omega) (decB_ok (by decide +kernel)) ?_
  refine V_callR C (As := [.int (xs (i + 1))]) (rest := [.int r]) (by decide +kernel) ok_yX5_holds mk_RL_39 (cfX5_holds (l := E.l) (G := E.G) a2 e2) (q0 := 0) rfl rfl rfl rfl rfl rfl (Nat.le_of_ble_eq_true rfl) (Nat.le_of_ble_eq_true rfl) (Nat.le_of_ble_eq_true rfl) ?_
  show V E _ (wdX E.G a S ++ wdM E.G a2 M) 495 (lls b (a 0) (a2 0) i) [.int r, .int r]
  exact V_ic_eq C (off := 1378) (tgt := 1873) (by decide +kernel) (by decide) (o1 := some ()) (o2 := none) (out := ()) (if_pos rfl) (fun _ _ => hk _ _ hR) (fun q _ => absurd rfl q)
theorem lc_show {E : VE} {Q : State → Prop} {b L i : Nat} {xs : Nat → Int32} {a a2 : Nat → Nat} {S : XT} {M : MT} (C : Ctx E code RL 30 ret) (hn : E.nL = 4) (hX : Scr E b L xs) (hi : i + 6 ≤ L) (hL : L ≤ 3072) (hR : Rel S M) (hk : ∀ S M, Rel S M → V E Q (wdX E.G a S ++ wdM E.G a2 M) 1873 (lls b (a 0) (a2 0) i) []) : V E Q (wdX E.G a S ++ wdM E.G a2 M) 500 (lls b (a 0) (a2 0) i) [] := by
  obtain ⟨r, S', M', e1, e2, hR'⟩ := c_show (p1 := xs (i + 1)) (p2 := xs (i + 2)) hR
  refine V_pb C hn [(.aload_n 1, 1)] (pc' := 501) (ls' := lls b (a 0) (a2 0) i) (st' := [.ref (a 0)]) (decB_ok (by decide +kernel)) rfl rfl ?_
  refine V_arg C hn hX hi hL 1 (by omega) (decB_ok (by decide +kernel)) ?_
  refine V_arg C hn hX hi hL 2 (by omega) (decB_ok (by decide +kernel)) ?_
  refine V_callL C (As := [.int (xs (i + 1)), .int (xs (i + 2))]) (rest := []) (by decide +kernel) ok_yX4_show mk_RL_40 (cfX4_show (l := E.l) (G := E.G) a e1) (q0 := 0) rfl rfl rfl rfl rfl rfl (Nat.le_of_ble_eq_true rfl) (Nat.le_of_ble_eq_true rfl) (Nat.le_of_ble_eq_true rfl) ?_
  show V E _ (wdX E.G a S' ++ wdM E.G a2 M) 514 (lls b (a 0) (a2 0) i) [.int r]
  refine V_pb C hn [(.aload_n 2, 1)] (pc' := 515) (ls' := lls b (a 0) (a2 0) i) (st' := [.ref (a2 0), .int r]) (decB_ok (by decide +kernel)) rfl rfl ?_
  refine V_arg C hn hX hi hL 1 (by omega) (decB_ok (by decide +kernel)) ?_
  refine V_arg C hn hX hi hL 2 (by omega) (decB_ok (by decide +kernel)) ?_
  refine V_callR C (As := [.int (xs (i + 1)), .int (xs (i + 2))]) (rest := [.int r]) (by decide +kernel) ok_yX5_show mk_RL_44 (cfX5_show (l := E.l) (G := E.G) a2 e2) (q0 := 0) rfl rfl rfl rfl rfl rfl (Nat.le_of_ble_eq_true rfl) (Nat.le_of_ble_eq_true rfl) (Nat.le_of_ble_eq_true rfl) ?_
  show V E _ (wdX E.G a S' ++ wdM E.G a2 M') 528 (lls b (a 0) (a2 0) i) [.int r, .int r]
  exact V_ic_eq C (off := 1345) (tgt := 1873) (by decide +kernel) (by decide) (o1 := some ()) (o2 := none) (out := ()) (if_pos rfl) (fun _ _ => hk _ _ hR') (fun q _ => absurd rfl q)
theorem lc_says {E : VE} {Q : State → Prop} {b L i : Nat} {xs : Nat → Int32} {a a2 : Nat → Nat} {S : XT} {M : MT} (C : Ctx E code RL 30 ret) (hn : E.nL = 4) (hX : Scr E b L xs) (hi : i + 6 ≤ L) (hL : L ≤ 3072) (hR : Rel S M) (hk : ∀ S M, Rel S M → V E Q (wdX E.G a S ++ wdM E.G a2 M) 1873 (lls b (a 0) (a2 0) i) []) : V E Q (wdX E.G a S ++ wdM E.G a2 M) 533 (lls b (a 0) (a2 0) i) [] := by
  obtain ⟨r, S', M', e1, e2, hR'⟩ := c_says (p1 := xs (i + 1)) (p2 := xs (i + 2)) hR
  refine V_pb C hn [(.aload_n 1, 1)] (pc' := 534) (ls' := lls b (a 0) (a2 0) i) (st' := [.ref (a 0)]) (decB_ok (by decide +kernel)) rfl rfl ?_
  refine V_arg C hn hX hi hL 1 (by omega) (decB_ok (by decide +kernel)) ?_
  refine V_arg C hn hX hi hL 2 (by omega) (decB_ok (by decide +kernel)) ?_
  refine V_callL C (As := [.int (xs (i + 1)), .int (xs (i + 2))]) (rest := []) (by decide +kernel) ok_yX4_says mk_RL_45 (cfX4_says (l := E.l) (G := E.G) a e1) (q0 := 0) rfl rfl rfl rfl rfl rfl (Nat.le_of_ble_eq_true rfl) (Nat.le_of_ble_eq_true rfl) (Nat.le_of_ble_eq_true rfl) ?_
  show V E _ (wdX E.G a S' ++ wdM E.G a2 M) 547 (lls b (a 0) (a2 0) i) [.int r]
  refine V_pb C hn [(.aload_n 2, 1)] (pc' := 548) (ls' := lls b (a 0) (a2 0) i) (st' := [.ref (a2 0), .int r]) (decB_ok (by decide +kernel)) rfl rfl ?_
  refine V_arg C hn hX hi hL 1 (by omega) (decB_ok (by decide +kernel)) ?_
  refine V_arg C hn hX hi hL 2 (by omega) (decB_ok (by decide +kernel)) ?_
  refine V_callR C (As := [.int (xs (i + 1)), .int (xs (i + 2))]) (rest := [.int r]) (by decide +kernel) ok_yX5_says mk_RL_48 (cfX5_says (l := E.l) (G := E.G) a2 e2) (q0 := 0) rfl rfl rfl rfl rfl rfl (Nat.le_of_ble_eq_true rfl) (Nat.le_of_ble_eq_true rfl) (Nat.le_of_ble_eq_true rfl) ?_
  show V E _ (wdX E.G a S' ++ wdM E.G a2 M') 561 (lls b (a 0) (a2 0) i) [.int r, .int r]
  exact V_ic_eq C (off := 1312) (tgt := 1873) (by decide +kernel) (by decide) (o1 := some ()) (o2 := none) (out := ()) (if_pos rfl) (fun _ _ => hk _ _ hR') (fun q _ => absurd rfl q)
theorem lc_side {E : VE} {Q : State → Prop} {b L i : Nat} {xs : Nat → Int32} {a a2 : Nat → Nat} {S : XT} {M : MT} (C : Ctx E code RL 30 ret) (hn : E.nL = 4) (hX : Scr E b L xs) (hi : i + 6 ≤ L) (hL : L ≤ 3072) (hR : Rel S M) (hk : ∀ S M, Rel S M → V E Q (wdX E.G a S ++ wdM E.G a2 M) 1873 (lls b (a 0) (a2 0) i) []) : V E Q (wdX E.G a S ++ wdM E.G a2 M) 566 (lls b (a 0) (a2 0) i) [] := by
  obtain ⟨r, S', M', e1, e2, hR'⟩ := c_side (p1 := xs (i + 1)) hR
  refine V_pb C hn [(.aload_n 1, 1)] (pc' := 567) (ls' := lls b (a 0) (a2 0) i) (st' := [.ref (a 0)]) (decB_ok (by decide +kernel)) rfl rfl ?_
  refine V_arg C hn hX hi hL 1 (by omega) (decB_ok (by decide +kernel)) ?_
  refine V_callL C (As := [.int (xs (i + 1))]) (rest := []) (by decide +kernel) ok_yX4_side mk_RL_49 (cfX4_side (l := E.l) (G := E.G) a e1) (q0 := 0) rfl rfl rfl rfl rfl rfl (Nat.le_of_ble_eq_true rfl) (Nat.le_of_ble_eq_true rfl) (Nat.le_of_ble_eq_true rfl) ?_
  show V E _ (wdX E.G a S' ++ wdM E.G a2 M) 575 (lls b (a 0) (a2 0) i) [.int r]
  refine V_pb C hn [(.aload_n 2, 1)] (pc' := 576) (ls' := lls b (a 0) (a2 0) i) (st' := [.ref (a2 0), .int r]) (decB_ok (by decide +kernel)) rfl rfl ?_
  refine V_arg C hn hX hi hL 1 (by omega) (decB_ok (by decide +kernel)) ?_
  refine V_callR C (As := [.int (xs (i + 1))]) (rest := [.int r]) (by decide +kernel) ok_yX5_side mk_RL_52 (cfX5_side (l := E.l) (G := E.G) a2 e2) (q0 := 0) rfl rfl rfl rfl rfl rfl (Nat.le_of_ble_eq_true rfl) (Nat.le_of_ble_eq_true rfl) (Nat.le_of_ble_eq_true rfl) ?_
  show V E _ (wdX E.G a S' ++ wdM E.G a2 M') 584 (lls b (a 0) (a2 0) i) [.int r, .int r]
  exact V_ic_eq C (off := 1289) (tgt := 1873) (by decide +kernel) (by decide) (o1 := some ()) (o2 := none) (out := ()) (if_pos rfl) (fun _ _ => hk _ _ hR') (fun q _ => absurd rfl q)
theorem lc_mote {E : VE} {Q : State → Prop} {b L i : Nat} {xs : Nat → Int32} {a a2 : Nat → Nat} {S : XT} {M : MT} (C : Ctx E code RL 30 ret) (hn : E.nL = 4) (hX : Scr E b L xs) (hi : i + 6 ≤ L) (hL : L ≤ 3072) (hR : Rel S M) (hk : ∀ S M, Rel S M → V E Q (wdX E.G a S ++ wdM E.G a2 M) 1873 (lls b (a 0) (a2 0) i) []) : V E Q (wdX E.G a S ++ wdM E.G a2 M) 589 (lls b (a 0) (a2 0) i) [] := by
  obtain ⟨r, S', M', e1, e2, hR'⟩ := c_mote (p1 := xs (i + 1)) (p2 := xs (i + 2)) (p3 := xs (i + 3)) hR
  refine V_pb C hn [(.aload_n 1, 1)] (pc' := 590) (ls' := lls b (a 0) (a2 0) i) (st' := [.ref (a 0)]) (decB_ok (by decide +kernel)) rfl rfl ?_
  refine V_arg C hn hX hi hL 1 (by omega) (decB_ok (by decide +kernel)) ?_
  refine V_arg C hn hX hi hL 2 (by omega) (decB_ok (by decide +kernel)) ?_
  refine V_arg C hn hX hi hL 3 (by omega) (decB_ok (by decide +kernel)) ?_
  refine V_callL C (As := [.int (xs (i + 1)), .int (xs (i + 2)), .int (xs (i + 3))]) (rest := []) (by decide +kernel) ok_yX4_mote mk_RL_53 (cfX4_mote (l := E.l) (G := E.G) a e1) (q0 := 0) rfl rfl rfl rfl rfl rfl (Nat.le_of_ble_eq_true rfl) (Nat.le_of_ble_eq_true rfl) (Nat.le_of_ble_eq_true rfl) ?_
  show V E _ (wdX E.G a S' ++ wdM E.G a2 M) 608 (lls b (a 0) (a2 0) i) [.int r]
  refine V_pb C hn [(.aload_n 2, 1)] (pc' := 609) (ls' := lls b (a 0) (a2 0) i) (st' := [.ref (a2 0), .int r]) (decB_ok (by decide +kernel)) rfl rfl ?_
  refine V_arg C hn hX hi hL 1 (by omega) (decB_ok (by decide +kernel)) ?_
  refine V_arg C hn hX hi hL 2 (by omega) (decB_ok (by decide +kernel)) ?_
  refine V_arg C hn hX hi hL 3 (by omega) (decB_ok (by decide +kernel)) ?_
  refine V_callR C (As := [.int (xs (i + 1)), .int (xs (i + 2)), .int (xs (i + 3))]) (rest := [.int r]) (by decide +kernel) ok_yX5_mote mk_RL_56 (cfX5_mote (l := E.l) (G := E.G) a2 e2) (q0 := 0) rfl rfl rfl rfl rfl rfl (Nat.le_of_ble_eq_true rfl) (Nat.le_of_ble_eq_true rfl) (Nat.le_of_ble_eq_true rfl) ?_
  show V E _ (wdX E.G a S' ++ wdM E.G a2 M') 627 (lls b (a 0) (a2 0) i) [.int r, .int r]
  exact V_ic_eq C (off := 1246) (tgt := 1873) (by decide +kernel) (by decide) (o1 := some ()) (o2 := none) (out := ()) (if_pos rfl) (fun _ _ => hk _ _ hR') (fun q _ => absurd rfl q)
theorem lc_put {E : VE} {Q : State → Prop} {b L i : Nat} {xs : Nat → Int32} {a a2 : Nat → Nat} {S : XT} {M : MT} (C : Ctx E code RL 30 ret) (hn : E.nL = 4) (hX : Scr E b L xs) (hi : i + 6 ≤ L) (hL : L ≤ 3072) (hR : Rel S M) (hk : ∀ S M, Rel S M → V E Q (wdX E.G a S ++ wdM E.G a2 M) 1873 (lls b (a 0) (a2 0) i) []) : V E Q (wdX E.G a S ++ wdM E.G a2 M) 632 (lls b (a 0) (a2 0) i) [] := by
  obtain ⟨r, S', M', e1, e2, hR'⟩ := c_put (p1 := xs (i + 1)) (p2 := xs (i + 2)) hR
  refine V_pb C hn [(.aload_n 1, 1)] (pc' := 633) (ls' := lls b (a 0) (a2 0) i) (st' := [.ref (a 0)]) (decB_ok (by decide +kernel)) rfl rfl ?_
  refine V_arg C hn hX hi hL 1 (by omega) (decB_ok (by decide +kernel)) ?_
  refine V_arg C hn hX hi hL 2 (by omega) (decB_ok (by decide +kernel)) ?_
  refine V_callL C (As := [.int (xs (i + 1)), .int (xs (i + 2))]) (rest := []) (by decide +kernel) ok_yX4_put mk_RL_57 (cfX4_put (l := E.l) (G := E.G) a e1) (q0 := 0) rfl rfl rfl rfl rfl rfl (Nat.le_of_ble_eq_true rfl) (Nat.le_of_ble_eq_true rfl) (Nat.le_of_ble_eq_true rfl) ?_
  show V E _ (wdX E.G a S' ++ wdM E.G a2 M) 646 (lls b (a 0) (a2 0) i) [.int r]
  refine V_pb C hn [(.aload_n 2, 1)] (pc' := 647) (ls' := lls b (a 0) (a2 0) i) (st' := [.ref (a2 0), .int r]) (decB_ok (by decide +kernel)) rfl rfl ?_
  refine V_arg C hn hX hi hL 1 (by omega) (decB_ok (by decide +kernel)) ?_
  refine V_arg C hn hX hi hL 2 (by omega) (decB_ok (by decide +kernel)) ?_
  refine V_callR C (As := [.int (xs (i + 1)), .int (xs (i + 2))]) (rest := [.int r]) (by decide +kernel) ok_yX5_put mk_RL_60 (cfX5_put (l := E.l) (G := E.G) a2 e2) (q0 := 0) rfl rfl rfl rfl rfl rfl (Nat.le_of_ble_eq_true rfl) (Nat.le_of_ble_eq_true rfl) (Nat.le_of_ble_eq_true rfl) ?_
  show V E _ (wdX E.G a S' ++ wdM E.G a2 M') 660 (lls b (a 0) (a2 0) i) [.int r, .int r]
  exact V_ic_eq C (off := 1213) (tgt := 1873) (by decide +kernel) (by decide) (o1 := some ()) (o2 := none) (out := ()) (if_pos rfl) (fun _ _ => hk _ _ hR') (fun q _ => absurd rfl q)
theorem lc_door {E : VE} {Q : State → Prop} {b L i : Nat} {xs : Nat → Int32} {a a2 : Nat → Nat} {S : XT} {M : MT} (C : Ctx E code RL 30 ret) (hn : E.nL = 4) (hX : Scr E b L xs) (hi : i + 6 ≤ L) (hL : L ≤ 3072) (hR : Rel S M) (hk : ∀ S M, Rel S M → V E Q (wdX E.G a S ++ wdM E.G a2 M) 1873 (lls b (a 0) (a2 0) i) []) : V E Q (wdX E.G a S ++ wdM E.G a2 M) 665 (lls b (a 0) (a2 0) i) [] := by
  obtain ⟨r, S', M', e1, e2, hR'⟩ := c_door (p1 := xs (i + 1)) (p2 := bl (xs (i + 2))) hR
  refine V_pb C hn [(.aload_n 1, 1)] (pc' := 666) (ls' := lls b (a 0) (a2 0) i) (st' := [.ref (a 0)]) (decB_ok (by decide +kernel)) rfl rfl ?_
  refine V_arg C hn hX hi hL 1 (by omega) (decB_ok (by decide +kernel)) ?_
  refine V_arg C hn hX hi hL 2 (by omega) (decB_ok (by decide +kernel)) ?_
  refine V_bool C (by decide +kernel) (by decide +kernel) (by decide +kernel) (by decide +kernel) ?_
  refine V_callL C (As := [.int (xs (i + 1)), .int (bl (xs (i + 2)))]) (rest := []) (by decide +kernel) ok_yX4_door mk_RL_61 (cfX4_door (l := E.l) (G := E.G) a e1) (q0 := 0) rfl rfl rfl rfl rfl rfl (Nat.le_of_ble_eq_true rfl) (Nat.le_of_ble_eq_true rfl) (Nat.le_of_ble_eq_true rfl) ?_
  show V E _ (wdX E.G a S' ++ wdM E.G a2 M) 687 (lls b (a 0) (a2 0) i) [.int r]
  refine V_pb C hn [(.aload_n 2, 1)] (pc' := 688) (ls' := lls b (a 0) (a2 0) i) (st' := [.ref (a2 0), .int r]) (decB_ok (by decide +kernel)) rfl rfl ?_
  refine V_arg C hn hX hi hL 1 (by omega) (decB_ok (by decide +kernel)) ?_
  refine V_arg C hn hX hi hL 2 (by omega) (decB_ok (by decide +kernel)) ?_
  refine V_bool C (by decide +kernel) (by decide +kernel) (by decide +kernel) (by decide +kernel) ?_
  refine V_callR C (As := [.int (xs (i + 1)), .int (bl (xs (i + 2)))]) (rest := [.int r]) (by decide +kernel) ok_yX5_door mk_RL_65 (cfX5_door (l := E.l) (G := E.G) a2 e2) (q0 := 0) rfl rfl rfl rfl rfl rfl (Nat.le_of_ble_eq_true rfl) (Nat.le_of_ble_eq_true rfl) (Nat.le_of_ble_eq_true rfl) ?_
  show V E _ (wdX E.G a S' ++ wdM E.G a2 M') 709 (lls b (a 0) (a2 0) i) [.int r, .int r]
  exact V_ic_eq C (off := 1164) (tgt := 1873) (by decide +kernel) (by decide) (o1 := some ()) (o2 := none) (out := ()) (if_pos rfl) (fun _ _ => hk _ _ hR') (fun q _ => absurd rfl q)
theorem lc_tell {E : VE} {Q : State → Prop} {b L i : Nat} {xs : Nat → Int32} {a a2 : Nat → Nat} {S : XT} {M : MT} (C : Ctx E code RL 30 ret) (hn : E.nL = 4) (hX : Scr E b L xs) (hi : i + 6 ≤ L) (hL : L ≤ 3072) (hR : Rel S M) (hk : ∀ S M, Rel S M → V E Q (wdX E.G a S ++ wdM E.G a2 M) 1873 (lls b (a 0) (a2 0) i) []) : V E Q (wdX E.G a S ++ wdM E.G a2 M) 714 (lls b (a 0) (a2 0) i) [] := by
  obtain ⟨r, S', M', e1, e2, hR'⟩ := c_tell (p1 := xs (i + 1)) (p2 := xs (i + 2)) hR
  refine V_pb C hn [(.aload_n 1, 1)] (pc' := 715) (ls' := lls b (a 0) (a2 0) i) (st' := [.ref (a 0)]) (decB_ok (by decide +kernel)) rfl rfl ?_
  refine V_arg C hn hX hi hL 1 (by omega) (decB_ok (by decide +kernel)) ?_
  refine V_arg C hn hX hi hL 2 (by omega) (decB_ok (by decide +kernel)) ?_
  refine V_callL C (As := [.int (xs (i + 1)), .int (xs (i + 2))]) (rest := []) (by decide +kernel) ok_yX4_tell mk_RL_66 (cfX4_tell (l := E.l) (G := E.G) a e1) (q0 := 0) rfl rfl rfl rfl rfl rfl (Nat.le_of_ble_eq_true rfl) (Nat.le_of_ble_eq_true rfl) (Nat.le_of_ble_eq_true rfl) ?_
  show V E _ (wdX E.G a S' ++ wdM E.G a2 M) 728 (lls b (a 0) (a2 0) i) [.int r]
  refine V_pb C hn [(.aload_n 2, 1)] (pc' := 729) (ls' := lls b (a 0) (a2 0) i) (st' := [.ref (a2 0), .int r]) (decB_ok (by decide +kernel)) rfl rfl ?_
  refine V_arg C hn hX hi hL 1 (by omega) (decB_ok (by decide +kernel)) ?_
  refine V_arg C hn hX hi hL 2 (by omega) (decB_ok (by decide +kernel)) ?_
  refine V_callR C (As := [.int (xs (i + 1)), .int (xs (i + 2))]) (rest := [.int r]) (by decide +kernel) ok_yX5_tell mk_RL_69 (cfX5_tell (l := E.l) (G := E.G) a2 e2) (q0 := 0) rfl rfl rfl rfl rfl rfl (Nat.le_of_ble_eq_true rfl) (Nat.le_of_ble_eq_true rfl) (Nat.le_of_ble_eq_true rfl) ?_
  show V E _ (wdX E.G a S' ++ wdM E.G a2 M') 742 (lls b (a 0) (a2 0) i) [.int r, .int r]
  exact V_ic_eq C (off := 1131) (tgt := 1873) (by decide +kernel) (by decide) (o1 := some ()) (o2 := none) (out := ()) (if_pos rfl) (fun _ _ => hk _ _ hR') (fun q _ => absurd rfl q)
theorem lc_feed {E : VE} {Q : State → Prop} {b L i : Nat} {xs : Nat → Int32} {a a2 : Nat → Nat} {S : XT} {M : MT} (C : Ctx E code RL 30 ret) (hn : E.nL = 4) (hX : Scr E b L xs) (hi : i + 6 ≤ L) (hL : L ≤ 3072) (hR : Rel S M) (hk : ∀ S M, Rel S M → V E Q (wdX E.G a S ++ wdM E.G a2 M) 1873 (lls b (a 0) (a2 0) i) []) : V E Q (wdX E.G a S ++ wdM E.G a2 M) 747 (lls b (a 0) (a2 0) i) [] := by
  obtain ⟨r, S', M', e1, e2, hR'⟩ := c_feed (p1 := xs (i + 1)) hR
  refine V_pb C hn [(.aload_n 1, 1)] (pc' := 748) (ls' := lls b (a 0) (a2 0) i) (st' := [.ref (a 0)]) (decB_ok (by decide +kernel)) rfl rfl ?_
  refine V_arg C hn hX hi hL 1 (by omega) (decB_ok (by decide +kernel)) ?_
  refine V_callL C (As := [.int (xs (i + 1))]) (rest := []) (by decide +kernel) ok_yX4_feed mk_RL_70 (cfX4_feed (l := E.l) (G := E.G) a e1) (q0 := 0) rfl rfl rfl rfl rfl rfl (Nat.le_of_ble_eq_true rfl) (Nat.le_of_ble_eq_true rfl) (Nat.le_of_ble_eq_true rfl) ?_
  show V E _ (wdX E.G a S' ++ wdM E.G a2 M) 756 (lls b (a 0) (a2 0) i) [.int r]
  refine V_pb C hn [(.aload_n 2, 1)] (pc' := 757) (ls' := lls b (a 0) (a2 0) i) (st' := [.ref (a2 0), .int r]) (decB_ok (by decide +kernel)) rfl rfl ?_
  refine V_arg C hn hX hi hL 1 (by omega) (decB_ok (by decide +kernel)) ?_
  refine V_callR C (As := [.int (xs (i + 1))]) (rest := [.int r]) (by decide +kernel) ok_yX5_feed mk_RL_73 (cfX5_feed (l := E.l) (G := E.G) a2 e2) (q0 := 0) rfl rfl rfl rfl rfl rfl (Nat.le_of_ble_eq_true rfl) (Nat.le_of_ble_eq_true rfl) (Nat.le_of_ble_eq_true rfl) ?_
  show V E _ (wdX E.G a S' ++ wdM E.G a2 M') 765 (lls b (a 0) (a2 0) i) [.int r, .int r]
  exact V_ic_eq C (off := 1108) (tgt := 1873) (by decide +kernel) (by decide) (o1 := some ()) (o2 := none) (out := ()) (if_pos rfl) (fun _ _ => hk _ _ hR') (fun q _ => absurd rfl q)
theorem lc_wipe {E : VE} {Q : State → Prop} {b L i : Nat} {xs : Nat → Int32} {a a2 : Nat → Nat} {S : XT} {M : MT} (C : Ctx E code RL 30 ret) (hn : E.nL = 4) (hX : Scr E b L xs) (hi : i + 6 ≤ L) (hL : L ≤ 3072) (hR : Rel S M) (hk : ∀ S M, Rel S M → V E Q (wdX E.G a S ++ wdM E.G a2 M) 1873 (lls b (a 0) (a2 0) i) []) : V E Q (wdX E.G a S ++ wdM E.G a2 M) 770 (lls b (a 0) (a2 0) i) [] := by
  obtain ⟨r, S', M', e1, e2, hR'⟩ := c_wipe  hR
  refine V_pb C hn [(.aload_n 1, 1)] (pc' := 771) (ls' := lls b (a 0) (a2 0) i) (st' := [.ref (a 0)]) (decB_ok (by decide +kernel)) rfl rfl ?_
  refine V_callL C (As := []) (rest := []) (by decide +kernel) ok_yX4_wipe mk_RL_74 (cfX4_wipe (l := E.l) (G := E.G) a e1) (q0 := 0) rfl rfl rfl rfl rfl rfl (Nat.le_of_ble_eq_true rfl) (Nat.le_of_ble_eq_true rfl) (Nat.le_of_ble_eq_true rfl) ?_
  show V E _ (wdX E.G a S' ++ wdM E.G a2 M) 774 (lls b (a 0) (a2 0) i) [.int r]
  refine V_pb C hn [(.aload_n 2, 1)] (pc' := 775) (ls' := lls b (a 0) (a2 0) i) (st' := [.ref (a2 0), .int r]) (decB_ok (by decide +kernel)) rfl rfl ?_
  refine V_callR C (As := []) (rest := [.int r]) (by decide +kernel) ok_yX5_wipe mk_RL_78 (cfX5_wipe (l := E.l) (G := E.G) a2 e2) (q0 := 0) rfl rfl rfl rfl rfl rfl (Nat.le_of_ble_eq_true rfl) (Nat.le_of_ble_eq_true rfl) (Nat.le_of_ble_eq_true rfl) ?_
  show V E _ (wdX E.G a S' ++ wdM E.G a2 M') 778 (lls b (a 0) (a2 0) i) [.int r, .int r]
  exact V_ic_eq C (off := 1095) (tgt := 1873) (by decide +kernel) (by decide) (o1 := some ()) (o2 := none) (out := ()) (if_pos rfl) (fun _ _ => hk _ _ hR') (fun q _ => absurd rfl q)
theorem lc_hall {E : VE} {Q : State → Prop} {b L i : Nat} {xs : Nat → Int32} {a a2 : Nat → Nat} {S : XT} {M : MT} (C : Ctx E code RL 30 ret) (hn : E.nL = 4) (hX : Scr E b L xs) (hi : i + 6 ≤ L) (hL : L ≤ 3072) (hR : Rel S M) (hk : ∀ S M, Rel S M → V E Q (wdX E.G a S ++ wdM E.G a2 M) 1873 (lls b (a 0) (a2 0) i) []) : V E Q (wdX E.G a S ++ wdM E.G a2 M) 783 (lls b (a 0) (a2 0) i) [] := by
  obtain ⟨r, S', M', e1, e2, hR'⟩ := c_hall  hR
  refine V_pb C hn [(.aload_n 1, 1)] (pc' := 784) (ls' := lls b (a 0) (a2 0) i) (st' := [.ref (a 0)]) (decB_ok (by decide +kernel)) rfl rfl ?_
  refine V_callL C (As := []) (rest := []) (by decide +kernel) ok_yX4_hall mk_RL_79 (cfX4_hall (l := E.l) (G := E.G) a e1) (q0 := 0) rfl rfl rfl rfl rfl rfl (Nat.le_of_ble_eq_true rfl) (Nat.le_of_ble_eq_true rfl) (Nat.le_of_ble_eq_true rfl) ?_
  show V E _ (wdX E.G a S' ++ wdM E.G a2 M) 787 (lls b (a 0) (a2 0) i) [.int r]
  refine V_pb C hn [(.aload_n 2, 1)] (pc' := 788) (ls' := lls b (a 0) (a2 0) i) (st' := [.ref (a2 0), .int r]) (decB_ok (by decide +kernel)) rfl rfl ?_
  refine V_callR C (As := []) (rest := [.int r]) (by decide +kernel) ok_yX5_hall mk_RL_82 (cfX5_hall (l := E.l) (G := E.G) a2 e2) (q0 := 0) rfl rfl rfl rfl rfl rfl (Nat.le_of_ble_eq_true rfl) (Nat.le_of_ble_eq_true rfl) (Nat.le_of_ble_eq_true rfl) ?_
  show V E _ (wdX E.G a S' ++ wdM E.G a2 M') 791 (lls b (a 0) (a2 0) i) [.int r, .int r]
  exact V_ic_eq C (off := 1082) (tgt := 1873) (by decide +kernel) (by decide) (o1 := some ()) (o2 := none) (out := ()) (if_pos rfl) (fun _ _ => hk _ _ hR') (fun q _ => absurd rfl q)
theorem lc_moteOf {E : VE} {Q : State → Prop} {b L i : Nat} {xs : Nat → Int32} {a a2 : Nat → Nat} {S : XT} {M : MT} (C : Ctx E code RL 30 ret) (hn : E.nL = 4) (hX : Scr E b L xs) (hi : i + 6 ≤ L) (hL : L ≤ 3072) (hR : Rel S M) (hk : ∀ S M, Rel S M → V E Q (wdX E.G a S ++ wdM E.G a2 M) 1873 (lls b (a 0) (a2 0) i) []) : V E Q (wdX E.G a S ++ wdM E.G a2 M) 796 (lls b (a 0) (a2 0) i) [] := by
  obtain ⟨r, S', M', e1, e2, hR'⟩ := c_moteOf (p1 := xs (i + 1)) (p2 := xs (i + 2)) hR
  refine V_pb C hn [(.aload_n 1, 1)] (pc' := 797) (ls' := lls b (a 0) (a2 0) i) (st' := [.ref (a 0)]) (decB_ok (by decide +kernel)) rfl rfl ?_
  refine V_arg C hn hX hi hL 1 (by omega) (decB_ok (by decide +kernel)) ?_
  refine V_arg C hn hX hi hL 2 (by omega) (decB_ok (by decide +kernel)) ?_
  refine V_callL C (As := [.int (xs (i + 1)), .int (xs (i + 2))]) (rest := []) (by decide +kernel) ok_yX4_moteOf mk_RL_83 (cfX4_moteOf (l := E.l) (G := E.G) a e1) (q0 := 0) rfl rfl rfl rfl rfl rfl (Nat.le_of_ble_eq_true rfl) (Nat.le_of_ble_eq_true rfl) (Nat.le_of_ble_eq_true rfl) ?_
  show V E _ (wdX E.G a S' ++ wdM E.G a2 M) 810 (lls b (a 0) (a2 0) i) [.int r]
  refine V_pb C hn [(.aload_n 2, 1)] (pc' := 811) (ls' := lls b (a 0) (a2 0) i) (st' := [.ref (a2 0), .int r]) (decB_ok (by decide +kernel)) rfl rfl ?_
  refine V_arg C hn hX hi hL 1 (by omega) (decB_ok (by decide +kernel)) ?_
  refine V_arg C hn hX hi hL 2 (by omega) (decB_ok (by decide +kernel)) ?_
  refine V_callR C (As := [.int (xs (i + 1)), .int (xs (i + 2))]) (rest := [.int r]) (by decide +kernel) ok_yX5_moteOf mk_RL_86 (cfX5_moteOf (l := E.l) (G := E.G) a2 e2) (q0 := 0) rfl rfl rfl rfl rfl rfl (Nat.le_of_ble_eq_true rfl) (Nat.le_of_ble_eq_true rfl) (Nat.le_of_ble_eq_true rfl) ?_
  show V E _ (wdX E.G a S' ++ wdM E.G a2 M') 824 (lls b (a 0) (a2 0) i) [.int r, .int r]
  exact V_ic_eq C (off := 1049) (tgt := 1873) (by decide +kernel) (by decide) (o1 := some ()) (o2 := none) (out := ()) (if_pos rfl) (fun _ _ => hk _ _ hR') (fun q _ => absurd rfl q)
theorem lc_lit {E : VE} {Q : State → Prop} {b L i : Nat} {xs : Nat → Int32} {a a2 : Nat → Nat} {S : XT} {M : MT} (C : Ctx E code RL 30 ret) (hn : E.nL = 4) (hX : Scr E b L xs) (hi : i + 6 ≤ L) (hL : L ≤ 3072) (hR : Rel S M) (hk : ∀ S M, Rel S M → V E Q (wdX E.G a S ++ wdM E.G a2 M) 1873 (lls b (a 0) (a2 0) i) []) : V E Q (wdX E.G a S ++ wdM E.G a2 M) 829 (lls b (a 0) (a2 0) i) [] := by
  obtain ⟨r, S', M', e1, e2, hR'⟩ := c_lit (p1 := xs (i + 1)) (p2 := xs (i + 2)) hR
  refine V_pb C hn [(.aload_n 1, 1)] (pc' := 830) (ls' := lls b (a 0) (a2 0) i) (st' := [.ref (a 0)]) (decB_ok (by decide +kernel)) rfl rfl ?_
  refine V_arg C hn hX hi hL 1 (by omega) (decB_ok (by decide +kernel)) ?_
  refine V_arg C hn hX hi hL 2 (by omega) (decB_ok (by decide +kernel)) ?_
  refine V_callL C (As := [.int (xs (i + 1)), .int (xs (i + 2))]) (rest := []) (by decide +kernel) ok_yX4_lit mk_RL_87 (cfX4_lit (l := E.l) (G := E.G) a e1) (q0 := 0) rfl rfl rfl rfl rfl rfl (Nat.le_of_ble_eq_true rfl) (Nat.le_of_ble_eq_true rfl) (Nat.le_of_ble_eq_true rfl) ?_
  show V E _ (wdX E.G a S' ++ wdM E.G a2 M) 843 (lls b (a 0) (a2 0) i) [.int r]
  refine V_pb C hn [(.aload_n 2, 1)] (pc' := 844) (ls' := lls b (a 0) (a2 0) i) (st' := [.ref (a2 0), .int r]) (decB_ok (by decide +kernel)) rfl rfl ?_
  refine V_arg C hn hX hi hL 1 (by omega) (decB_ok (by decide +kernel)) ?_
  refine V_arg C hn hX hi hL 2 (by omega) (decB_ok (by decide +kernel)) ?_
  refine V_callR C (As := [.int (xs (i + 1)), .int (xs (i + 2))]) (rest := [.int r]) (by decide +kernel) ok_yX5_lit mk_RL_90 (cfX5_lit (l := E.l) (G := E.G) a2 e2) (q0 := 0) rfl rfl rfl rfl rfl rfl (Nat.le_of_ble_eq_true rfl) (Nat.le_of_ble_eq_true rfl) (Nat.le_of_ble_eq_true rfl) ?_
  show V E _ (wdX E.G a S' ++ wdM E.G a2 M') 857 (lls b (a 0) (a2 0) i) [.int r, .int r]
  exact V_ic_eq C (off := 1016) (tgt := 1873) (by decide +kernel) (by decide) (o1 := some ()) (o2 := none) (out := ()) (if_pos rfl) (fun _ _ => hk _ _ hR') (fun q _ => absurd rfl q)
theorem lc_where {E : VE} {Q : State → Prop} {b L i : Nat} {xs : Nat → Int32} {a a2 : Nat → Nat} {S : XT} {M : MT} (C : Ctx E code RL 30 ret) (hn : E.nL = 4) (hX : Scr E b L xs) (hi : i + 6 ≤ L) (hL : L ≤ 3072) (hR : Rel S M) (hk : ∀ S M, Rel S M → V E Q (wdX E.G a S ++ wdM E.G a2 M) 1873 (lls b (a 0) (a2 0) i) []) : V E Q (wdX E.G a S ++ wdM E.G a2 M) 862 (lls b (a 0) (a2 0) i) [] := by
  obtain ⟨r, S', M', e1, e2, hR'⟩ := c_where (p1 := xs (i + 1)) (p2 := xs (i + 2)) hR
  refine V_pb C hn [(.aload_n 1, 1)] (pc' := 863) (ls' := lls b (a 0) (a2 0) i) (st' := [.ref (a 0)]) (decB_ok (by decide +kernel)) rfl rfl ?_
  refine V_arg C hn hX hi hL 1 (by omega) (decB_ok (by decide +kernel)) ?_
  refine V_arg C hn hX hi hL 2 (by omega) (decB_ok (by decide +kernel)) ?_
  refine V_callL C (As := [.int (xs (i + 1)), .int (xs (i + 2))]) (rest := []) (by decide +kernel) ok_yX4_where mk_RL_91 (cfX4_where (l := E.l) (G := E.G) a e1) (q0 := 0) rfl rfl rfl rfl rfl rfl (Nat.le_of_ble_eq_true rfl) (Nat.le_of_ble_eq_true rfl) (Nat.le_of_ble_eq_true rfl) ?_
  show V E _ (wdX E.G a S' ++ wdM E.G a2 M) 876 (lls b (a 0) (a2 0) i) [.int r]
  refine V_pb C hn [(.aload_n 2, 1)] (pc' := 877) (ls' := lls b (a 0) (a2 0) i) (st' := [.ref (a2 0), .int r]) (decB_ok (by decide +kernel)) rfl rfl ?_
  refine V_arg C hn hX hi hL 1 (by omega) (decB_ok (by decide +kernel)) ?_
  refine V_arg C hn hX hi hL 2 (by omega) (decB_ok (by decide +kernel)) ?_
  refine V_callR C (As := [.int (xs (i + 1)), .int (xs (i + 2))]) (rest := [.int r]) (by decide +kernel) ok_yX5_where mk_RL_94 (cfX5_where (l := E.l) (G := E.G) a2 e2) (q0 := 0) rfl rfl rfl rfl rfl rfl (Nat.le_of_ble_eq_true rfl) (Nat.le_of_ble_eq_true rfl) (Nat.le_of_ble_eq_true rfl) ?_
  show V E _ (wdX E.G a S' ++ wdM E.G a2 M') 890 (lls b (a 0) (a2 0) i) [.int r, .int r]
  exact V_ic_eq C (off := 983) (tgt := 1873) (by decide +kernel) (by decide) (o1 := some ()) (o2 := none) (out := ()) (if_pos rfl) (fun _ _ => hk _ _ hR') (fun q _ => absurd rfl q)
theorem lc_votes {E : VE} {Q : State → Prop} {b L i : Nat} {xs : Nat → Int32} {a a2 : Nat → Nat} {S : XT} {M : MT} (C : Ctx E code RL 30 ret) (hn : E.nL = 4) (hX : Scr E b L xs) (hi : i + 6 ≤ L) (hL : L ≤ 3072) (hR : Rel S M) (hk : ∀ S M, Rel S M → V E Q (wdX E.G a S ++ wdM E.G a2 M) 1873 (lls b (a 0) (a2 0) i) []) : V E Q (wdX E.G a S ++ wdM E.G a2 M) 895 (lls b (a 0) (a2 0) i) [] := by
  obtain ⟨r, S', M', e1, e2, hR'⟩ := c_votes (p1 := xs (i + 1)) (p2 := xs (i + 2)) hR
  refine V_pb C hn [(.aload_n 1, 1)] (pc' := 896) (ls' := lls b (a 0) (a2 0) i) (st' := [.ref (a 0)]) (decB_ok (by decide +kernel)) rfl rfl ?_
  refine V_arg C hn hX hi hL 1 (by omega) (decB_ok (by decide +kernel)) ?_
  refine V_arg C hn hX hi hL 2 (by omega) (decB_ok (by decide +kernel)) ?_
  refine V_callL C (As := [.int (xs (i + 1)), .int (xs (i + 2))]) (rest := []) (by decide +kernel) ok_yX4_votes mk_RL_95 (cfX4_votes (l := E.l) (G := E.G) a e1) (q0 := 0) rfl rfl rfl rfl rfl rfl (Nat.le_of_ble_eq_true rfl) (Nat.le_of_ble_eq_true rfl) (Nat.le_of_ble_eq_true rfl) ?_
  show V E _ (wdX E.G a S' ++ wdM E.G a2 M) 909 (lls b (a 0) (a2 0) i) [.int r]
  refine V_pb C hn [(.aload_n 2, 1)] (pc' := 910) (ls' := lls b (a 0) (a2 0) i) (st' := [.ref (a2 0), .int r]) (decB_ok (by decide +kernel)) rfl rfl ?_
  refine V_arg C hn hX hi hL 1 (by omega) (decB_ok (by decide +kernel)) ?_
  refine V_arg C hn hX hi hL 2 (by omega) (decB_ok (by decide +kernel)) ?_
  refine V_callR C (As := [.int (xs (i + 1)), .int (xs (i + 2))]) (rest := [.int r]) (by decide +kernel) ok_yX5_votes mk_RL_98 (cfX5_votes (l := E.l) (G := E.G) a2 e2) (q0 := 0) rfl rfl rfl rfl rfl rfl (Nat.le_of_ble_eq_true rfl) (Nat.le_of_ble_eq_true rfl) (Nat.le_of_ble_eq_true rfl) ?_
  show V E _ (wdX E.G a S' ++ wdM E.G a2 M') 923 (lls b (a 0) (a2 0) i) [.int r, .int r]
  exact V_ic_eq C (off := 950) (tgt := 1873) (by decide +kernel) (by decide) (o1 := some ()) (o2 := none) (out := ()) (if_pos rfl) (fun _ _ => hk _ _ hR') (fun q _ => absurd rfl q)
theorem lc_when {E : VE} {Q : State → Prop} {b L i : Nat} {xs : Nat → Int32} {a a2 : Nat → Nat} {S : XT} {M : MT} (C : Ctx E code RL 30 ret) (hn : E.nL = 4) (hX : Scr E b L xs) (hi : i + 6 ≤ L) (hL : L ≤ 3072) (hR : Rel S M) (hk : ∀ S M, Rel S M → V E Q (wdX E.G a S ++ wdM E.G a2 M) 1873 (lls b (a 0) (a2 0) i) []) : V E Q (wdX E.G a S ++ wdM E.G a2 M) 928 (lls b (a 0) (a2 0) i) [] := by
  obtain ⟨r, S', M', e1, e2, hR'⟩ := c_when (p1 := xs (i + 1)) hR
  refine V_pb C hn [(.aload_n 1, 1)] (pc' := 929) (ls' := lls b (a 0) (a2 0) i) (st' := [.ref (a 0)]) (decB_ok (by decide +kernel)) rfl rfl ?_
  refine V_arg C hn hX hi hL 1 (by omega) (decB_ok (by decide +kernel)) ?_
  refine V_callL C (As := [.int (xs (i + 1))]) (rest := []) (by decide +kernel) ok_yX4_when mk_RL_99 (cfX4_when (l := E.l) (G := E.G) a e1) (q0 := 0) rfl rfl rfl rfl rfl rfl (Nat.le_of_ble_eq_true rfl) (Nat.le_of_ble_eq_true rfl) (Nat.le_of_ble_eq_true rfl) ?_
  show V E _ (wdX E.G a S' ++ wdM E.G a2 M) 937 (lls b (a 0) (a2 0) i) [.int r]
  refine V_pb C hn [(.aload_n 2, 1)] (pc' := 938) (ls' := lls b (a 0) (a2 0) i) (st' := [.ref (a2 0), .int r]) (decB_ok (by decide +kernel)) rfl rfl ?_
  refine V_arg C hn hX hi hL 1 (by omega) (decB_ok (by decide +kernel)) ?_
  refine V_callR C (As := [.int (xs (i + 1))]) (rest := [.int r]) (by decide +kernel) ok_yX5_when mk_RL_102 (cfX5_when (l := E.l) (G := E.G) a2 e2) (q0 := 0) rfl rfl rfl rfl rfl rfl (Nat.le_of_ble_eq_true rfl) (Nat.le_of_ble_eq_true rfl) (Nat.le_of_ble_eq_true rfl) ?_
  show V E _ (wdX E.G a S' ++ wdM E.G a2 M') 946 (lls b (a 0) (a2 0) i) [.int r, .int r]
  exact V_ic_eq C (off := 927) (tgt := 1873) (by decide +kernel) (by decide) (o1 := some ()) (o2 := none) (out := ()) (if_pos rfl) (fun _ _ => hk _ _ hR') (fun q _ => absurd rfl q)
theorem lc_setting {E : VE} {Q : State → Prop} {b L i : Nat} {xs : Nat → Int32} {a a2 : Nat → Nat} {S : XT} {M : MT} (C : Ctx E code RL 30 ret) (hn : E.nL = 4) (hX : Scr E b L xs) (hi : i + 6 ≤ L) (hL : L ≤ 3072) (hR : Rel S M) (hk : ∀ S M, Rel S M → V E Q (wdX E.G a S ++ wdM E.G a2 M) 1873 (lls b (a 0) (a2 0) i) []) : V E Q (wdX E.G a S ++ wdM E.G a2 M) 951 (lls b (a 0) (a2 0) i) [] := by
  obtain ⟨r, S', M', e1, e2, hR'⟩ := c_setting (p1 := xs (i + 1)) (p2 := xs (i + 2)) hR
  refine V_pb C hn [(.aload_n 1, 1)] (pc' := 952) (ls' := lls b (a 0) (a2 0) i) (st' := [.ref (a 0)]) (decB_ok (by decide +kernel)) rfl rfl ?_
  refine V_arg C hn hX hi hL 1 (by omega) (decB_ok (by decide +kernel)) ?_
  refine V_arg C hn hX hi hL 2 (by omega) (decB_ok (by decide +kernel)) ?_
  refine V_callL C (As := [.int (xs (i + 1)), .int (xs (i + 2))]) (rest := []) (by decide +kernel) ok_yX4_setting mk_RL_103 (cfX4_setting (l := E.l) (G := E.G) a e1) (q0 := 0) rfl rfl rfl rfl rfl rfl (Nat.le_of_ble_eq_true rfl) (Nat.le_of_ble_eq_true rfl) (Nat.le_of_ble_eq_true rfl) ?_
  show V E _ (wdX E.G a S' ++ wdM E.G a2 M) 965 (lls b (a 0) (a2 0) i) [.int r]
  refine V_pb C hn [(.aload_n 2, 1)] (pc' := 966) (ls' := lls b (a 0) (a2 0) i) (st' := [.ref (a2 0), .int r]) (decB_ok (by decide +kernel)) rfl rfl ?_
  refine V_arg C hn hX hi hL 1 (by omega) (decB_ok (by decide +kernel)) ?_
  refine V_arg C hn hX hi hL 2 (by omega) (decB_ok (by decide +kernel)) ?_
  refine V_callR C (As := [.int (xs (i + 1)), .int (xs (i + 2))]) (rest := [.int r]) (by decide +kernel) ok_yX5_setting mk_RL_106 (cfX5_setting (l := E.l) (G := E.G) a2 e2) (q0 := 0) rfl rfl rfl rfl rfl rfl (Nat.le_of_ble_eq_true rfl) (Nat.le_of_ble_eq_true rfl) (Nat.le_of_ble_eq_true rfl) ?_
  show V E _ (wdX E.G a S' ++ wdM E.G a2 M') 979 (lls b (a 0) (a2 0) i) [.int r, .int r]
  exact V_ic_eq C (off := 894) (tgt := 1873) (by decide +kernel) (by decide) (o1 := some ()) (o2 := none) (out := ()) (if_pos rfl) (fun _ _ => hk _ _ hR') (fun q _ => absurd rfl q)
theorem lc_which {E : VE} {Q : State → Prop} {b L i : Nat} {xs : Nat → Int32} {a a2 : Nat → Nat} {S : XT} {M : MT} (C : Ctx E code RL 30 ret) (hn : E.nL = 4) (hX : Scr E b L xs) (hi : i + 6 ≤ L) (hL : L ≤ 3072) (hR : Rel S M) (hk : ∀ S M, Rel S M → V E Q (wdX E.G a S ++ wdM E.G a2 M) 1873 (lls b (a 0) (a2 0) i) []) : V E Q (wdX E.G a S ++ wdM E.G a2 M) 984 (lls b (a 0) (a2 0) i) [] := by
  obtain ⟨r, S', M', e1, e2, hR'⟩ := c_which (p1 := xs (i + 1)) (p2 := xs (i + 2)) (p3 := xs (i + 3)) hR
  refine V_pb C hn [(.aload_n 1, 1)] (pc' := 985) (ls' := lls b (a 0) (a2 0) i) (st' := [.ref (a 0)]) (decB_ok (by decide +kernel)) rfl rfl ?_
  refine V_arg C hn hX hi hL 1 (by omega) (decB_ok (by decide +kernel)) ?_
  refine V_arg C hn hX hi hL 2 (by omega) (decB_ok (by decide +kernel)) ?_
  refine V_arg C hn hX hi hL 3 (by omega) (decB_ok (by decide +kernel)) ?_
  refine V_callL C (As := [.int (xs (i + 1)), .int (xs (i + 2)), .int (xs (i + 3))]) (rest := []) (by decide +kernel) ok_yX4_which mk_RL_107 (cfX4_which (l := E.l) (G := E.G) a e1) (q0 := 0) rfl rfl rfl rfl rfl rfl (Nat.le_of_ble_eq_true rfl) (Nat.le_of_ble_eq_true rfl) (Nat.le_of_ble_eq_true rfl) ?_
  show V E _ (wdX E.G a S' ++ wdM E.G a2 M) 1003 (lls b (a 0) (a2 0) i) [.int r]
  refine V_pb C hn [(.aload_n 2, 1)] (pc' := 1004) (ls' := lls b (a 0) (a2 0) i) (st' := [.ref (a2 0), .int r]) (decB_ok (by decide +kernel)) rfl rfl ?_
  refine V_arg C hn hX hi hL 1 (by omega) (decB_ok (by decide +kernel)) ?_
  refine V_arg C hn hX hi hL 2 (by omega) (decB_ok (by decide +kernel)) ?_
  refine V_arg C hn hX hi hL 3 (by omega) (decB_ok (by decide +kernel)) ?_
  refine V_callR C (As := [.int (xs (i + 1)), .int (xs (i + 2)), .int (xs (i + 3))]) (rest := [.int r]) (by decide +kernel) ok_yX5_which mk_RL_110 (cfX5_which (l := E.l) (G := E.G) a2 e2) (q0 := 0) rfl rfl rfl rfl rfl rfl (Nat.le_of_ble_eq_true rfl) (Nat.le_of_ble_eq_true rfl) (Nat.le_of_ble_eq_true rfl) ?_
  show V E _ (wdX E.G a S' ++ wdM E.G a2 M') 1022 (lls b (a 0) (a2 0) i) [.int r, .int r]
  exact V_ic_eq C (off := 851) (tgt := 1873) (by decide +kernel) (by decide) (o1 := some ()) (o2 := none) (out := ()) (if_pos rfl) (fun _ _ => hk _ _ hR') (fun q _ => absurd rfl q)
theorem lc_kinds {E : VE} {Q : State → Prop} {b L i : Nat} {xs : Nat → Int32} {a a2 : Nat → Nat} {S : XT} {M : MT} (C : Ctx E code RL 30 ret) (hn : E.nL = 4) (hX : Scr E b L xs) (hi : i + 6 ≤ L) (hL : L ≤ 3072) (hR : Rel S M) (hk : ∀ S M, Rel S M → V E Q (wdX E.G a S ++ wdM E.G a2 M) 1873 (lls b (a 0) (a2 0) i) []) : V E Q (wdX E.G a S ++ wdM E.G a2 M) 1027 (lls b (a 0) (a2 0) i) [] := by
  obtain ⟨r, S', M', e1, e2, hR'⟩ := c_kinds (p1 := xs (i + 1)) (p2 := xs (i + 2)) (p3 := xs (i + 3)) hR
  refine V_pb C hn [(.aload_n 1, 1)] (pc' := 1028) (ls' := lls b (a 0) (a2 0) i) (st' := [.ref (a 0)]) (decB_ok (by decide +kernel)) rfl rfl ?_
  refine V_arg C hn hX hi hL 1 (by omega) (decB_ok (by decide +kernel)) ?_
  refine V_arg C hn hX hi hL 2 (by omega) (decB_ok (by decide +kernel)) ?_
  refine V_arg C hn hX hi hL 3 (by omega) (decB_ok (by decide +kernel)) ?_
  refine V_callL C (As := [.int (xs (i + 1)), .int (xs (i + 2)), .int (xs (i + 3))]) (rest := []) (by decide +kernel) ok_yX4_kinds mk_RL_111 (cfX4_kinds (l := E.l) (G := E.G) a e1) (q0 := 0) rfl rfl rfl rfl rfl rfl (Nat.le_of_ble_eq_true rfl) (Nat.le_of_ble_eq_true rfl) (Nat.le_of_ble_eq_true rfl) ?_
  show V E _ (wdX E.G a S' ++ wdM E.G a2 M) 1046 (lls b (a 0) (a2 0) i) [.int r]
  refine V_pb C hn [(.aload_n 2, 1)] (pc' := 1047) (ls' := lls b (a 0) (a2 0) i) (st' := [.ref (a2 0), .int r]) (decB_ok (by decide +kernel)) rfl rfl ?_
  refine V_arg C hn hX hi hL 1 (by omega) (decB_ok (by decide +kernel)) ?_
  refine V_arg C hn hX hi hL 2 (by omega) (decB_ok (by decide +kernel)) ?_
  refine V_arg C hn hX hi hL 3 (by omega) (decB_ok (by decide +kernel)) ?_
  refine V_callR C (As := [.int (xs (i + 1)), .int (xs (i + 2)), .int (xs (i + 3))]) (rest := [.int r]) (by decide +kernel) ok_yX5_kinds mk_RL_114 (cfX5_kinds (l := E.l) (G := E.G) a2 e2) (q0 := 0) rfl rfl rfl rfl rfl rfl (Nat.le_of_ble_eq_true rfl) (Nat.le_of_ble_eq_true rfl) (Nat.le_of_ble_eq_true rfl) ?_
  show V E _ (wdX E.G a S' ++ wdM E.G a2 M') 1065 (lls b (a 0) (a2 0) i) [.int r, .int r]
  exact V_ic_eq C (off := 808) (tgt := 1873) (by decide +kernel) (by decide) (o1 := some ()) (o2 := none) (out := ()) (if_pos rfl) (fun _ _ => hk _ _ hR') (fun q _ => absurd rfl q)
theorem lc_centre {E : VE} {Q : State → Prop} {b L i : Nat} {xs : Nat → Int32} {a a2 : Nat → Nat} {S : XT} {M : MT} (C : Ctx E code RL 30 ret) (hn : E.nL = 4) (hX : Scr E b L xs) (hi : i + 6 ≤ L) (hL : L ≤ 3072) (hR : Rel S M) (hk : ∀ S M, Rel S M → V E Q (wdX E.G a S ++ wdM E.G a2 M) 1873 (lls b (a 0) (a2 0) i) []) : V E Q (wdX E.G a S ++ wdM E.G a2 M) 1070 (lls b (a 0) (a2 0) i) [] := by
  obtain ⟨r, S', M', e1, e2, hR'⟩ := c_centre (p1 := xs (i + 1)) (p2 := xs (i + 2)) hR
  refine V_pb C hn [(.aload_n 1, 1)] (pc' := 1071) (ls' := lls b (a 0) (a2 0) i) (st' := [.ref (a 0)]) (decB_ok (by decide +kernel)) rfl rfl ?_
  refine V_arg C hn hX hi hL 1 (by omega) (decB_ok (by decide +kernel)) ?_
  refine V_arg C hn hX hi hL 2 (by omega) (decB_ok (by decide +kernel)) ?_
  refine V_callL C (As := [.int (xs (i + 1)), .int (xs (i + 2))]) (rest := []) (by decide +kernel) ok_yX4_centre mk_RL_115 (cfX4_centre (l := E.l) (G := E.G) a e1) (q0 := 0) rfl rfl rfl rfl rfl rfl (Nat.le_of_ble_eq_true rfl) (Nat.le_of_ble_eq_true rfl) (Nat.le_of_ble_eq_true rfl) ?_
  show V E _ (wdX E.G a S' ++ wdM E.G a2 M) 1084 (lls b (a 0) (a2 0) i) [.int r]
  refine V_pb C hn [(.aload_n 2, 1)] (pc' := 1085) (ls' := lls b (a 0) (a2 0) i) (st' := [.ref (a2 0), .int r]) (decB_ok (by decide +kernel)) rfl rfl ?_
  refine V_arg C hn hX hi hL 1 (by omega) (decB_ok (by decide +kernel)) ?_
  refine V_arg C hn hX hi hL 2 (by omega) (decB_ok (by decide +kernel)) ?_
  refine V_callR C (As := [.int (xs (i + 1)), .int (xs (i + 2))]) (rest := [.int r]) (by decide +kernel) ok_yX5_centre mk_RL_118 (cfX5_centre (l := E.l) (G := E.G) a2 e2) (q0 := 0) rfl rfl rfl rfl rfl rfl (Nat.le_of_ble_eq_true rfl) (Nat.le_of_ble_eq_true rfl) (Nat.le_of_ble_eq_true rfl) ?_
  show V E _ (wdX E.G a S' ++ wdM E.G a2 M') 1098 (lls b (a 0) (a2 0) i) [.int r, .int r]
  exact V_ic_eq C (off := 775) (tgt := 1873) (by decide +kernel) (by decide) (o1 := some ()) (o2 := none) (out := ()) (if_pos rfl) (fun _ _ => hk _ _ hR') (fun q _ => absurd rfl q)
theorem lc_whips {E : VE} {Q : State → Prop} {b L i : Nat} {xs : Nat → Int32} {a a2 : Nat → Nat} {S : XT} {M : MT} (C : Ctx E code RL 30 ret) (hn : E.nL = 4) (hX : Scr E b L xs) (hi : i + 6 ≤ L) (hL : L ≤ 3072) (hR : Rel S M) (hk : ∀ S M, Rel S M → V E Q (wdX E.G a S ++ wdM E.G a2 M) 1873 (lls b (a 0) (a2 0) i) []) : V E Q (wdX E.G a S ++ wdM E.G a2 M) 1103 (lls b (a 0) (a2 0) i) [] := by
  obtain ⟨r, S', M', e1, e2, hR'⟩ := c_whips (p1 := xs (i + 1)) (p2 := xs (i + 2)) hR
  refine V_pb C hn [(.aload_n 1, 1)] (pc' := 1104) (ls' := lls b (a 0) (a2 0) i) (st' := [.ref (a 0)]) (decB_ok (by decide +kernel)) rfl rfl ?_
  refine V_arg C hn hX hi hL 1 (by omega) (decB_ok (by decide +kernel)) ?_
  refine V_arg C hn hX hi hL 2 (by omega) (decB_ok (by decide +kernel)) ?_
  refine V_callL C (As := [.int (xs (i + 1)), .int (xs (i + 2))]) (rest := []) (by decide +kernel) ok_yX4_whips mk_RL_119 (cfX4_whips (l := E.l) (G := E.G) a e1) (q0 := 0) rfl rfl rfl rfl rfl rfl (Nat.le_of_ble_eq_true rfl) (Nat.le_of_ble_eq_true rfl) (Nat.le_of_ble_eq_true rfl) ?_
  show V E _ (wdX E.G a S' ++ wdM E.G a2 M) 1117 (lls b (a 0) (a2 0) i) [.int r]
  refine V_pb C hn [(.aload_n 2, 1)] (pc' := 1118) (ls' := lls b (a 0) (a2 0) i) (st' := [.ref (a2 0), .int r]) (decB_ok (by decide +kernel)) rfl rfl ?_
  refine V_arg C hn hX hi hL 1 (by omega) (decB_ok (by decide +kernel)) ?_
  refine V_arg C hn hX hi hL 2 (by omega) (decB_ok (by decide +kernel)) ?_
  refine V_callR C (As := [.int (xs (i + 1)), .int (xs (i + 2))]) (rest := [.int r]) (by decide +kernel) ok_yX5_whips mk_RL_122 (cfX5_whips (l := E.l) (G := E.G) a2 e2) (q0 := 0) rfl rfl rfl rfl rfl rfl (Nat.le_of_ble_eq_true rfl) (Nat.le_of_ble_eq_true rfl) (Nat.le_of_ble_eq_true rfl) ?_
  show V E _ (wdX E.G a S' ++ wdM E.G a2 M') 1131 (lls b (a 0) (a2 0) i) [.int r, .int r]
  exact V_ic_eq C (off := 742) (tgt := 1873) (by decide +kernel) (by decide) (o1 := some ()) (o2 := none) (out := ()) (if_pos rfl) (fun _ _ => hk _ _ hR') (fun q _ => absurd rfl q)
theorem lc_answer {E : VE} {Q : State → Prop} {b L i : Nat} {xs : Nat → Int32} {a a2 : Nat → Nat} {S : XT} {M : MT} (C : Ctx E code RL 30 ret) (hn : E.nL = 4) (hX : Scr E b L xs) (hi : i + 6 ≤ L) (hL : L ≤ 3072) (hR : Rel S M) (hk : ∀ S M, Rel S M → V E Q (wdX E.G a S ++ wdM E.G a2 M) 1873 (lls b (a 0) (a2 0) i) []) : V E Q (wdX E.G a S ++ wdM E.G a2 M) 1136 (lls b (a 0) (a2 0) i) [] := by
  obtain ⟨r, S', M', e1, e2, hR'⟩ := c_answer (p1 := xs (i + 1)) (p2 := xs (i + 2)) hR
  refine V_pb C hn [(.aload_n 1, 1)] (pc' := 1137) (ls' := lls b (a 0) (a2 0) i) (st' := [.ref (a 0)]) (decB_ok (by decide +kernel)) rfl rfl ?_
  refine V_arg C hn hX hi hL 1 (by omega) (decB_ok (by decide +kernel)) ?_
  refine V_arg C hn hX hi hL 2 (by omega) (decB_ok (by decide +kernel)) ?_
  refine V_callL C (As := [.int (xs (i + 1)), .int (xs (i + 2))]) (rest := []) (by decide +kernel) ok_yX4_answer mk_RL_123 (cfX4_answer (l := E.l) (G := E.G) a e1) (q0 := 0) rfl rfl rfl rfl rfl rfl (Nat.le_of_ble_eq_true rfl) (Nat.le_of_ble_eq_true rfl) (Nat.le_of_ble_eq_true rfl) ?_
  show V E _ (wdX E.G a S' ++ wdM E.G a2 M) 1150 (lls b (a 0) (a2 0) i) [.int r]
  refine V_pb C hn [(.aload_n 2, 1)] (pc' := 1151) (ls' := lls b (a 0) (a2 0) i) (st' := [.ref (a2 0), .int r]) (decB_ok (by decide +kernel)) rfl rfl ?_
  refine V_arg C hn hX hi hL 1 (by omega) (decB_ok (by decide +kernel)) ?_
  refine V_arg C hn hX hi hL 2 (by omega) (decB_ok (by decide +kernel)) ?_
  refine V_callR C (As := [.int (xs (i + 1)), .int (xs (i + 2))]) (rest := [.int r]) (by decide +kernel) ok_yX5_answer mk_RL_126 (cfX5_answer (l := E.l) (G := E.G) a2 e2) (q0 := 0) rfl rfl rfl rfl rfl rfl (Nat.le_of_ble_eq_true rfl) (Nat.le_of_ble_eq_true rfl) (Nat.le_of_ble_eq_true rfl) ?_
  show V E _ (wdX E.G a S' ++ wdM E.G a2 M') 1164 (lls b (a 0) (a2 0) i) [.int r, .int r]
  exact V_ic_eq C (off := 709) (tgt := 1873) (by decide +kernel) (by decide) (o1 := some ()) (o2 := none) (out := ()) (if_pos rfl) (fun _ _ => hk _ _ hR') (fun q _ => absurd rfl q)
theorem lc_odds {E : VE} {Q : State → Prop} {b L i : Nat} {xs : Nat → Int32} {a a2 : Nat → Nat} {S : XT} {M : MT} (C : Ctx E code RL 30 ret) (hn : E.nL = 4) (hX : Scr E b L xs) (hi : i + 6 ≤ L) (hL : L ≤ 3072) (hR : Rel S M) (hk : ∀ S M, Rel S M → V E Q (wdX E.G a S ++ wdM E.G a2 M) 1873 (lls b (a 0) (a2 0) i) []) : V E Q (wdX E.G a S ++ wdM E.G a2 M) 1169 (lls b (a 0) (a2 0) i) [] := by
  obtain ⟨r, S', M', e1, e2, hR'⟩ := c_odds (p1 := xs (i + 1)) (p2 := xs (i + 2)) hR
  refine V_pb C hn [(.aload_n 1, 1)] (pc' := 1170) (ls' := lls b (a 0) (a2 0) i) (st' := [.ref (a 0)]) (decB_ok (by decide +kernel)) rfl rfl ?_
  refine V_arg C hn hX hi hL 1 (by omega) (decB_ok (by decide +kernel)) ?_
  refine V_arg C hn hX hi hL 2 (by omega) (decB_ok (by decide +kernel)) ?_
  refine V_callL C (As := [.int (xs (i + 1)), .int (xs (i + 2))]) (rest := []) (by decide +kernel) ok_yX4_odds mk_RL_127 (cfX4_odds (l := E.l) (G := E.G) a e1) (q0 := 0) rfl rfl rfl rfl rfl rfl (Nat.le_of_ble_eq_true rfl) (Nat.le_of_ble_eq_true rfl) (Nat.le_of_ble_eq_true rfl) ?_
  show V E _ (wdX E.G a S' ++ wdM E.G a2 M) 1183 (lls b (a 0) (a2 0) i) [.int r]
  refine V_pb C hn [(.aload_n 2, 1)] (pc' := 1184) (ls' := lls b (a 0) (a2 0) i) (st' := [.ref (a2 0), .int r]) (decB_ok (by decide +kernel)) rfl rfl ?_
  refine V_arg C hn hX hi hL 1 (by omega) (decB_ok (by decide +kernel)) ?_
  refine V_arg C hn hX hi hL 2 (by omega) (decB_ok (by decide +kernel)) ?_
  refine V_callR C (As := [.int (xs (i + 1)), .int (xs (i + 2))]) (rest := [.int r]) (by decide +kernel) ok_yX5_odds mk_RL_130 (cfX5_odds (l := E.l) (G := E.G) a2 e2) (q0 := 0) rfl rfl rfl rfl rfl rfl (Nat.le_of_ble_eq_true rfl) (Nat.le_of_ble_eq_true rfl) (Nat.le_of_ble_eq_true rfl) ?_
  show V E _ (wdX E.G a S' ++ wdM E.G a2 M') 1197 (lls b (a 0) (a2 0) i) [.int r, .int r]
  exact V_ic_eq C (off := 676) (tgt := 1873) (by decide +kernel) (by decide) (o1 := some ()) (o2 := none) (out := ()) (if_pos rfl) (fun _ _ => hk _ _ hR') (fun q _ => absurd rfl q)
theorem lc_first {E : VE} {Q : State → Prop} {b L i : Nat} {xs : Nat → Int32} {a a2 : Nat → Nat} {S : XT} {M : MT} (C : Ctx E code RL 30 ret) (hn : E.nL = 4) (hX : Scr E b L xs) (hi : i + 6 ≤ L) (hL : L ≤ 3072) (hR : Rel S M) (hk : ∀ S M, Rel S M → V E Q (wdX E.G a S ++ wdM E.G a2 M) 1873 (lls b (a 0) (a2 0) i) []) : V E Q (wdX E.G a S ++ wdM E.G a2 M) 1202 (lls b (a 0) (a2 0) i) [] := by
  obtain ⟨r, S', M', e1, e2, hR'⟩ := c_first (p1 := xs (i + 1)) hR
  refine V_pb C hn [(.aload_n 1, 1)] (pc' := 1203) (ls' := lls b (a 0) (a2 0) i) (st' := [.ref (a 0)]) (decB_ok (by decide +kernel)) rfl rfl ?_
  refine V_arg C hn hX hi hL 1 (by omega) (decB_ok (by decide +kernel)) ?_
  refine V_callL C (As := [.int (xs (i + 1))]) (rest := []) (by decide +kernel) ok_yX4_first mk_RL_131 (cfX4_first (l := E.l) (G := E.G) a e1) (q0 := 0) rfl rfl rfl rfl rfl rfl (Nat.le_of_ble_eq_true rfl) (Nat.le_of_ble_eq_true rfl) (Nat.le_of_ble_eq_true rfl) ?_
  show V E _ (wdX E.G a S' ++ wdM E.G a2 M) 1211 (lls b (a 0) (a2 0) i) [.int r]
  refine V_pb C hn [(.aload_n 2, 1)] (pc' := 1212) (ls' := lls b (a 0) (a2 0) i) (st' := [.ref (a2 0), .int r]) (decB_ok (by decide +kernel)) rfl rfl ?_
  refine V_arg C hn hX hi hL 1 (by omega) (decB_ok (by decide +kernel)) ?_
  refine V_callR C (As := [.int (xs (i + 1))]) (rest := [.int r]) (by decide +kernel) ok_yX5_first mk_RL_134 (cfX5_first (l := E.l) (G := E.G) a2 e2) (q0 := 0) rfl rfl rfl rfl rfl rfl (Nat.le_of_ble_eq_true rfl) (Nat.le_of_ble_eq_true rfl) (Nat.le_of_ble_eq_true rfl) ?_
  show V E _ (wdX E.G a S' ++ wdM E.G a2 M') 1220 (lls b (a 0) (a2 0) i) [.int r, .int r]
  exact V_ic_eq C (off := 653) (tgt := 1873) (by decide +kernel) (by decide) (o1 := some ()) (o2 := none) (out := ()) (if_pos rfl) (fun _ _ => hk _ _ hR') (fun q _ => absurd rfl q)
theorem lc_crowd {E : VE} {Q : State → Prop} {b L i : Nat} {xs : Nat → Int32} {a a2 : Nat → Nat} {S : XT} {M : MT} (C : Ctx E code RL 30 ret) (hn : E.nL = 4) (hX : Scr E b L xs) (hi : i + 6 ≤ L) (hL : L ≤ 3072) (hR : Rel S M) (hk : ∀ S M, Rel S M → V E Q (wdX E.G a S ++ wdM E.G a2 M) 1873 (lls b (a 0) (a2 0) i) []) : V E Q (wdX E.G a S ++ wdM E.G a2 M) 1225 (lls b (a 0) (a2 0) i) [] := by
  obtain ⟨r, S', M', e1, e2, hR'⟩ := c_crowd (p1 := xs (i + 1)) (p2 := xs (i + 2)) hR
  refine V_pb C hn [(.aload_n 1, 1)] (pc' := 1226) (ls' := lls b (a 0) (a2 0) i) (st' := [.ref (a 0)]) (decB_ok (by decide +kernel)) rfl rfl ?_
  refine V_arg C hn hX hi hL 1 (by omega) (decB_ok (by decide +kernel)) ?_
  refine V_arg C hn hX hi hL 2 (by omega) (decB_ok (by decide +kernel)) ?_
  refine V_callL C (As := [.int (xs (i + 1)), .int (xs (i + 2))]) (rest := []) (by decide +kernel) ok_yX4_crowd mk_RL_135 (cfX4_crowd (l := E.l) (G := E.G) a e1) (q0 := 0) rfl rfl rfl rfl rfl rfl (Nat.le_of_ble_eq_true rfl) (Nat.le_of_ble_eq_true rfl) (Nat.le_of_ble_eq_true rfl) ?_
  show V E _ (wdX E.G a S' ++ wdM E.G a2 M) 1239 (lls b (a 0) (a2 0) i) [.int r]
  refine V_pb C hn [(.aload_n 2, 1)] (pc' := 1240) (ls' := lls b (a 0) (a2 0) i) (st' := [.ref (a2 0), .int r]) (decB_ok (by decide +kernel)) rfl rfl ?_
  refine V_arg C hn hX hi hL 1 (by omega) (decB_ok (by decide +kernel)) ?_
  refine V_arg C hn hX hi hL 2 (by omega) (decB_ok (by decide +kernel)) ?_
  refine V_callR C (As := [.int (xs (i + 1)), .int (xs (i + 2))]) (rest := [.int r]) (by decide +kernel) ok_yX5_crowd mk_RL_138 (cfX5_crowd (l := E.l) (G := E.G) a2 e2) (q0 := 0) rfl rfl rfl rfl rfl rfl (Nat.le_of_ble_eq_true rfl) (Nat.le_of_ble_eq_true rfl) (Nat.le_of_ble_eq_true rfl) ?_
  show V E _ (wdX E.G a S' ++ wdM E.G a2 M') 1253 (lls b (a 0) (a2 0) i) [.int r, .int r]
  exact V_ic_eq C (off := 620) (tgt := 1873) (by decide +kernel) (by decide) (o1 := some ()) (o2 := none) (out := ()) (if_pos rfl) (fun _ _ => hk _ _ hR') (fun q _ => absurd rfl q)
theorem lc_thick {E : VE} {Q : State → Prop} {b L i : Nat} {xs : Nat → Int32} {a a2 : Nat → Nat} {S : XT} {M : MT} (C : Ctx E code RL 30 ret) (hn : E.nL = 4) (hX : Scr E b L xs) (hi : i + 6 ≤ L) (hL : L ≤ 3072) (hR : Rel S M) (hk : ∀ S M, Rel S M → V E Q (wdX E.G a S ++ wdM E.G a2 M) 1873 (lls b (a 0) (a2 0) i) []) : V E Q (wdX E.G a S ++ wdM E.G a2 M) 1258 (lls b (a 0) (a2 0) i) [] := by
  obtain ⟨r, S', M', e1, e2, hR'⟩ := c_thick (p1 := xs (i + 1)) hR
  refine V_pb C hn [(.aload_n 1, 1)] (pc' := 1259) (ls' := lls b (a 0) (a2 0) i) (st' := [.ref (a 0)]) (decB_ok (by decide +kernel)) rfl rfl ?_
  refine V_arg C hn hX hi hL 1 (by omega) (decB_ok (by decide +kernel)) ?_
  refine V_callL C (As := [.int (xs (i + 1))]) (rest := []) (by decide +kernel) ok_yX4_thick mk_RL_139 (cfX4_thick (l := E.l) (G := E.G) a e1) (q0 := 0) rfl rfl rfl rfl rfl rfl (Nat.le_of_ble_eq_true rfl) (Nat.le_of_ble_eq_true rfl) (Nat.le_of_ble_eq_true rfl) ?_
  show V E _ (wdX E.G a S' ++ wdM E.G a2 M) 1267 (lls b (a 0) (a2 0) i) [.int r]
  refine V_pb C hn [(.aload_n 2, 1)] (pc' := 1268) (ls' := lls b (a 0) (a2 0) i) (st' := [.ref (a2 0), .int r]) (decB_ok (by decide +kernel)) rfl rfl ?_
  refine V_arg C hn hX hi hL 1 (by omega) (decB_ok (by decide +kernel)) ?_
  refine V_callR C (As := [.int (xs (i + 1))]) (rest := [.int r]) (by decide +kernel) ok_yX5_thick mk_RL_142 (cfX5_thick (l := E.l) (G := E.G) a2 e2) (q0 := 0) rfl rfl rfl rfl rfl rfl (Nat.le_of_ble_eq_true rfl) (Nat.le_of_ble_eq_true rfl) (Nat.le_of_ble_eq_true rfl) ?_
  show V E _ (wdX E.G a S' ++ wdM E.G a2 M') 1276 (lls b (a 0) (a2 0) i) [.int r, .int r]
  exact V_ic_eq C (off := 597) (tgt := 1873) (by decide +kernel) (by decide) (o1 := some ()) (o2 := none) (out := ()) (if_pos rfl) (fun _ _ => hk _ _ hR') (fun q _ => absurd rfl q)
theorem lc_arrives {E : VE} {Q : State → Prop} {b L i : Nat} {xs : Nat → Int32} {a a2 : Nat → Nat} {S : XT} {M : MT} (C : Ctx E code RL 30 ret) (hn : E.nL = 4) (hX : Scr E b L xs) (hi : i + 6 ≤ L) (hL : L ≤ 3072) (hR : Rel S M) (hk : ∀ S M, Rel S M → V E Q (wdX E.G a S ++ wdM E.G a2 M) 1873 (lls b (a 0) (a2 0) i) []) : V E Q (wdX E.G a S ++ wdM E.G a2 M) 1281 (lls b (a 0) (a2 0) i) [] := by
  obtain ⟨r, S', M', e1, e2, hR'⟩ := c_arrives (p1 := xs (i + 1)) (p2 := xs (i + 2)) hR
  refine V_pb C hn [(.aload_n 1, 1)] (pc' := 1282) (ls' := lls b (a 0) (a2 0) i) (st' := [.ref (a 0)]) (decB_ok (by decide +kernel)) rfl rfl ?_
  refine V_arg C hn hX hi hL 1 (by omega) (decB_ok (by decide +kernel)) ?_
  refine V_arg C hn hX hi hL 2 (by omega) (decB_ok (by decide +kernel)) ?_
  refine V_callL C (As := [.int (xs (i + 1)), .int (xs (i + 2))]) (rest := []) (by decide +kernel) ok_yX4_arrives mk_RL_143 (cfX4_arrives (l := E.l) (G := E.G) a e1) (q0 := 0) rfl rfl rfl rfl rfl rfl (Nat.le_of_ble_eq_true rfl) (Nat.le_of_ble_eq_true rfl) (Nat.le_of_ble_eq_true rfl) ?_
  show V E _ (wdX E.G a S' ++ wdM E.G a2 M) 1295 (lls b (a 0) (a2 0) i) [.int r]
  refine V_pb C hn [(.aload_n 2, 1)] (pc' := 1296) (ls' := lls b (a 0) (a2 0) i) (st' := [.ref (a2 0), .int r]) (decB_ok (by decide +kernel)) rfl rfl ?_
  refine V_arg C hn hX hi hL 1 (by omega) (decB_ok (by decide +kernel)) ?_
  refine V_arg C hn hX hi hL 2 (by omega) (decB_ok (by decide +kernel)) ?_
  refine V_callR C (As := [.int (xs (i + 1)), .int (xs (i + 2))]) (rest := [.int r]) (by decide +kernel) ok_yX5_arrives mk_RL_146 (cfX5_arrives (l := E.l) (G := E.G) a2 e2) (q0 := 0) rfl rfl rfl rfl rfl rfl (Nat.le_of_ble_eq_true rfl) (Nat.le_of_ble_eq_true rfl) (Nat.le_of_ble_eq_true rfl) ?_
  show V E _ (wdX E.G a S' ++ wdM E.G a2 M') 1309 (lls b (a 0) (a2 0) i) [.int r, .int r]
  exact V_ic_eq C (off := 564) (tgt := 1873) (by decide +kernel) (by decide) (o1 := some ()) (o2 := none) (out := ()) (if_pos rfl) (fun _ _ => hk _ _ hR') (fun q _ => absurd rfl q)
theorem lc_lights {E : VE} {Q : State → Prop} {b L i : Nat} {xs : Nat → Int32} {a a2 : Nat → Nat} {S : XT} {M : MT} (C : Ctx E code RL 30 ret) (hn : E.nL = 4) (hX : Scr E b L xs) (hi : i + 6 ≤ L) (hL : L ≤ 3072) (hR : Rel S M) (hk : ∀ S M, Rel S M → V E Q (wdX E.G a S ++ wdM E.G a2 M) 1873 (lls b (a 0) (a2 0) i) []) : V E Q (wdX E.G a S ++ wdM E.G a2 M) 1314 (lls b (a 0) (a2 0) i) [] := by
  obtain ⟨r, S', M', e1, e2, hR'⟩ := c_lights (p1 := xs (i + 1)) hR
  refine V_pb C hn [(.aload_n 1, 1)] (pc' := 1315) (ls' := lls b (a 0) (a2 0) i) (st' := [.ref (a 0)]) (decB_ok (by decide +kernel)) rfl rfl ?_
  refine V_arg C hn hX hi hL 1 (by omega) (decB_ok (by decide +kernel)) ?_
  refine V_callL C (As := [.int (xs (i + 1))]) (rest := []) (by decide +kernel) ok_yX4_lights mk_RL_147 (cfX4_lights (l := E.l) (G := E.G) a e1) (q0 := 0) rfl rfl rfl rfl rfl rfl (Nat.le_of_ble_eq_true rfl) (Nat.le_of_ble_eq_true rfl) (Nat.le_of_ble_eq_true rfl) ?_
  show V E _ (wdX E.G a S' ++ wdM E.G a2 M) 1323 (lls b (a 0) (a2 0) i) [.int r]
  refine V_pb C hn [(.aload_n 2, 1)] (pc' := 1324) (ls' := lls b (a 0) (a2 0) i) (st' := [.ref (a2 0), .int r]) (decB_ok (by decide +kernel)) rfl rfl ?_
  refine V_arg C hn hX hi hL 1 (by omega) (decB_ok (by decide +kernel)) ?_
  refine V_callR C (As := [.int (xs (i + 1))]) (rest := [.int r]) (by decide +kernel) ok_yX5_lights mk_RL_150 (cfX5_lights (l := E.l) (G := E.G) a2 e2) (q0 := 0) rfl rfl rfl rfl rfl rfl (Nat.le_of_ble_eq_true rfl) (Nat.le_of_ble_eq_true rfl) (Nat.le_of_ble_eq_true rfl) ?_
  show V E _ (wdX E.G a S' ++ wdM E.G a2 M') 1332 (lls b (a 0) (a2 0) i) [.int r, .int r]
  exact V_ic_eq C (off := 541) (tgt := 1873) (by decide +kernel) (by decide) (o1 := some ()) (o2 := none) (out := ()) (if_pos rfl) (fun _ _ => hk _ _ hR') (fun q _ => absurd rfl q)
theorem lc_meet {E : VE} {Q : State → Prop} {b L i : Nat} {xs : Nat → Int32} {a a2 : Nat → Nat} {S : XT} {M : MT} (C : Ctx E code RL 30 ret) (hn : E.nL = 4) (hX : Scr E b L xs) (hi : i + 6 ≤ L) (hL : L ≤ 3072) (hR : Rel S M) (hk : ∀ S M, Rel S M → V E Q (wdX E.G a S ++ wdM E.G a2 M) 1873 (lls b (a 0) (a2 0) i) []) : V E Q (wdX E.G a S ++ wdM E.G a2 M) 1337 (lls b (a 0) (a2 0) i) [] := by
  obtain ⟨r, S', M', e1, e2, hR'⟩ := c_meet (p1 := xs (i + 1)) (p2 := xs (i + 2)) hR
  refine V_pb C hn [(.aload_n 1, 1)] (pc' := 1338) (ls' := lls b (a 0) (a2 0) i) (st' := [.ref (a 0)]) (decB_ok (by decide +kernel)) rfl rfl ?_
  refine V_arg C hn hX hi hL 1 (by omega) (decB_ok (by decide +kernel)) ?_
  refine V_arg C hn hX hi hL 2 (by omega) (decB_ok (by decide +kernel)) ?_
  refine V_callL C (As := [.int (xs (i + 1)), .int (xs (i + 2))]) (rest := []) (by decide +kernel) ok_yX4_meet mk_RL_151 (cfX4_meet (l := E.l) (G := E.G) a e1) (q0 := 0) rfl rfl rfl rfl rfl rfl (Nat.le_of_ble_eq_true rfl) (Nat.le_of_ble_eq_true rfl) (Nat.le_of_ble_eq_true rfl) ?_
  show V E _ (wdX E.G a S' ++ wdM E.G a2 M) 1351 (lls b (a 0) (a2 0) i) [.int r]
  refine V_pb C hn [(.aload_n 2, 1)] (pc' := 1352) (ls' := lls b (a 0) (a2 0) i) (st' := [.ref (a2 0), .int r]) (decB_ok (by decide +kernel)) rfl rfl ?_
  refine V_arg C hn hX hi hL 1 (by omega) (decB_ok (by decide +kernel)) ?_
  refine V_arg C hn hX hi hL 2 (by omega) (decB_ok (by decide +kernel)) ?_
  refine V_callR C (As := [.int (xs (i + 1)), .int (xs (i + 2))]) (rest := [.int r]) (by decide +kernel) ok_yX5_meet mk_RL_154 (cfX5_meet (l := E.l) (G := E.G) a2 e2) (q0 := 0) rfl rfl rfl rfl rfl rfl (Nat.le_of_ble_eq_true rfl) (Nat.le_of_ble_eq_true rfl) (Nat.le_of_ble_eq_true rfl) ?_
  show V E _ (wdX E.G a S' ++ wdM E.G a2 M') 1365 (lls b (a 0) (a2 0) i) [.int r, .int r]
  exact V_ic_eq C (off := 508) (tgt := 1873) (by decide +kernel) (by decide) (o1 := some ()) (o2 := none) (out := ()) (if_pos rfl) (fun _ _ => hk _ _ hR') (fun q _ => absurd rfl q)
theorem lc_beamFor {E : VE} {Q : State → Prop} {b L i : Nat} {xs : Nat → Int32} {a a2 : Nat → Nat} {S : XT} {M : MT} (C : Ctx E code RL 30 ret) (hn : E.nL = 4) (hX : Scr E b L xs) (hi : i + 6 ≤ L) (hL : L ≤ 3072) (hR : Rel S M) (hk : ∀ S M, Rel S M → V E Q (wdX E.G a S ++ wdM E.G a2 M) 1873 (lls b (a 0) (a2 0) i) []) : V E Q (wdX E.G a S ++ wdM E.G a2 M) 1370 (lls b (a 0) (a2 0) i) [] := by
  obtain ⟨r, S', M', e1, e2, hR'⟩ := c_beamFor (p1 := xs (i + 1)) hR
  refine V_pb C hn [(.aload_n 1, 1)] (pc' := 1371) (ls' := lls b (a 0) (a2 0) i) (st' := [.ref (a 0)]) (decB_ok (by decide +kernel)) rfl rfl ?_
  refine V_arg C hn hX hi hL 1 (by omega) (decB_ok (by decide +kernel)) ?_
  refine V_callL C (As := [.int (xs (i + 1))]) (rest := []) (by decide +kernel) ok_yX4_beamFor mk_RL_155 (cfX4_beamFor (l := E.l) (G := E.G) a e1) (q0 := 0) rfl rfl rfl rfl rfl rfl (Nat.le_of_ble_eq_true rfl) (Nat.le_of_ble_eq_true rfl) (Nat.le_of_ble_eq_true rfl) ?_
  show V E _ (wdX E.G a S' ++ wdM E.G a2 M) 1379 (lls b (a 0) (a2 0) i) [.int r]
  refine V_pb C hn [(.aload_n 2, 1)] (pc' := 1380) (ls' := lls b (a 0) (a2 0) i) (st' := [.ref (a2 0), .int r]) (decB_ok (by decide +kernel)) rfl rfl ?_
  refine V_arg C hn hX hi hL 1 (by omega) (decB_ok (by decide +kernel)) ?_
  refine V_callR C (As := [.int (xs (i + 1))]) (rest := [.int r]) (by decide +kernel) ok_yX5_beamFor mk_RL_158 (cfX5_beamFor (l := E.l) (G := E.G) a2 e2) (q0 := 0) rfl rfl rfl rfl rfl rfl (Nat.le_of_ble_eq_true rfl) (Nat.le_of_ble_eq_true rfl) (Nat.le_of_ble_eq_true rfl) ?_
  show V E _ (wdX E.G a S' ++ wdM E.G a2 M') 1388 (lls b (a 0) (a2 0) i) [.int r, .int r]
  exact V_ic_eq C (off := 485) (tgt := 1873) (by decide +kernel) (by decide) (o1 := some ()) (o2 := none) (out := ()) (if_pos rfl) (fun _ _ => hk _ _ hR') (fun q _ => absurd rfl q)
theorem lc_warmthFor {E : VE} {Q : State → Prop} {b L i : Nat} {xs : Nat → Int32} {a a2 : Nat → Nat} {S : XT} {M : MT} (C : Ctx E code RL 30 ret) (hn : E.nL = 4) (hX : Scr E b L xs) (hi : i + 6 ≤ L) (hL : L ≤ 3072) (hR : Rel S M) (hk : ∀ S M, Rel S M → V E Q (wdX E.G a S ++ wdM E.G a2 M) 1873 (lls b (a 0) (a2 0) i) []) : V E Q (wdX E.G a S ++ wdM E.G a2 M) 1393 (lls b (a 0) (a2 0) i) [] := by
  obtain ⟨r, S', M', e1, e2, hR'⟩ := c_warmthFor (p1 := xs (i + 1)) hR
  refine V_pb C hn [(.aload_n 1, 1)] (pc' := 1394) (ls' := lls b (a 0) (a2 0) i) (st' := [.ref (a 0)]) (decB_ok (by decide +kernel)) rfl rfl ?_
  refine V_arg C hn hX hi hL 1 (by omega) (decB_ok (by decide +kernel)) ?_
  refine V_callL C (As := [.int (xs (i + 1))]) (rest := []) (by decide +kernel) ok_yX4_warmthFor mk_RL_159 (cfX4_warmthFor (l := E.l) (G := E.G) a e1) (q0 := 0) rfl rfl rfl rfl rfl rfl (Nat.le_of_ble_eq_true rfl) (Nat.le_of_ble_eq_true rfl) (Nat.le_of_ble_eq_true rfl) ?_
  show V E _ (wdX E.G a S' ++ wdM E.G a2 M) 1402 (lls b (a 0) (a2 0) i) [.int r]
  refine V_pb C hn [(.aload_n 2, 1)] (pc' := 1403) (ls' := lls b (a 0) (a2 0) i) (st' := [.ref (a2 0), .int r]) (decB_ok (by decide +kernel)) rfl rfl ?_
  refine V_arg C hn hX hi hL 1 (by omega) (decB_ok (by decide +kernel)) ?_
  refine V_callR C (As := [.int (xs (i + 1))]) (rest := [.int r]) (by decide +kernel) ok_yX5_warmthFor mk_RL_162 (cfX5_warmthFor (l := E.l) (G := E.G) a2 e2) (q0 := 0) rfl rfl rfl rfl rfl rfl (Nat.le_of_ble_eq_true rfl) (Nat.le_of_ble_eq_true rfl) (Nat.le_of_ble_eq_true rfl) ?_
  show V E _ (wdX E.G a S' ++ wdM E.G a2 M') 1411 (lls b (a 0) (a2 0) i) [.int r, .int r]
  exact V_ic_eq C (off := 462) (tgt := 1873) (by decide +kernel) (by decide) (o1 := some ()) (o2 := none) (out := ()) (if_pos rfl) (fun _ _ => hk _ _ hR') (fun q _ => absurd rfl q)
theorem lc_bestCell {E : VE} {Q : State → Prop} {b L i : Nat} {xs : Nat → Int32} {a a2 : Nat → Nat} {S : XT} {M : MT} (C : Ctx E code RL 30 ret) (hn : E.nL = 4) (hX : Scr E b L xs) (hi : i + 6 ≤ L) (hL : L ≤ 3072) (hR : Rel S M) (hk : ∀ S M, Rel S M → V E Q (wdX E.G a S ++ wdM E.G a2 M) 1873 (lls b (a 0) (a2 0) i) []) : V E Q (wdX E.G a S ++ wdM E.G a2 M) 1416 (lls b (a 0) (a2 0) i) [] := by
  obtain ⟨r, S', M', e1, e2, hR'⟩ := c_bestCell (p1 := xs (i + 1)) (p2 := xs (i + 2)) hR
  refine V_pb C hn [(.aload_n 1, 1)] (pc' := 1417) (ls' := lls b (a 0) (a2 0) i) (st' := [.ref (a 0)]) (decB_ok (by decide +kernel)) rfl rfl ?_
  refine V_arg C hn hX hi hL 1 (by omega) (decB_ok (by decide +kernel)) ?_
  refine V_arg C hn hX hi hL 2 (by omega) (decB_ok (by decide +kernel)) ?_
  refine V_callL C (As := [.int (xs (i + 1)), .int (xs (i + 2))]) (rest := []) (by decide +kernel) ok_yX4_bestCell mk_RL_163 (cfX4_bestCell (l := E.l) (G := E.G) a e1) (q0 := 0) rfl rfl rfl rfl rfl rfl (Nat.le_of_ble_eq_true rfl) (Nat.le_of_ble_eq_true rfl) (Nat.le_of_ble_eq_true rfl) ?_
  show V E _ (wdX E.G a S' ++ wdM E.G a2 M) 1430 (lls b (a 0) (a2 0) i) [.int r]
  refine V_pb C hn [(.aload_n 2, 1)] (pc' := 1431) (ls' := lls b (a 0) (a2 0) i) (st' := [.ref (a2 0), .int r]) (decB_ok (by decide +kernel)) rfl rfl ?_
  refine V_arg C hn hX hi hL 1 (by omega) (decB_ok (by decide +kernel)) ?_
  refine V_arg C hn hX hi hL 2 (by omega) (decB_ok (by decide +kernel)) ?_
  refine V_callR C (As := [.int (xs (i + 1)), .int (xs (i + 2))]) (rest := [.int r]) (by decide +kernel) ok_yX5_bestCell mk_RL_166 (cfX5_bestCell (l := E.l) (G := E.G) a2 e2) (q0 := 0) rfl rfl rfl rfl rfl rfl (Nat.le_of_ble_eq_true rfl) (Nat.le_of_ble_eq_true rfl) (Nat.le_of_ble_eq_true rfl) ?_
  show V E _ (wdX E.G a S' ++ wdM E.G a2 M') 1444 (lls b (a 0) (a2 0) i) [.int r, .int r]
  exact V_ic_eq C (off := 429) (tgt := 1873) (by decide +kernel) (by decide) (o1 := some ()) (o2 := none) (out := ()) (if_pos rfl) (fun _ _ => hk _ _ hR') (fun q _ => absurd rfl q)
theorem lc_many {E : VE} {Q : State → Prop} {b L i : Nat} {xs : Nat → Int32} {a a2 : Nat → Nat} {S : XT} {M : MT} (C : Ctx E code RL 30 ret) (hn : E.nL = 4) (hX : Scr E b L xs) (hi : i + 6 ≤ L) (hL : L ≤ 3072) (hR : Rel S M) (hk : ∀ S M, Rel S M → V E Q (wdX E.G a S ++ wdM E.G a2 M) 1873 (lls b (a 0) (a2 0) i) []) : V E Q (wdX E.G a S ++ wdM E.G a2 M) 1449 (lls b (a 0) (a2 0) i) [] := by
  obtain ⟨r, S', M', e1, e2, hR'⟩ := c_many (p1 := xs (i + 1)) hR
  refine V_pb C hn [(.aload_n 1, 1)] (pc' := 1450) (ls' := lls b (a 0) (a2 0) i) (st' := [.ref (a 0)]) (decB_ok (by decide +kernel)) rfl rfl ?_
  refine V_arg C hn hX hi hL 1 (by omega) (decB_ok (by decide +kernel)) ?_
  refine V_callL C (As := [.int (xs (i + 1))]) (rest := []) (by decide +kernel) ok_yX4_many mk_RL_167 (cfX4_many (l := E.l) (G := E.G) a e1) (q0 := 0) rfl rfl rfl rfl rfl rfl (Nat.le_of_ble_eq_true rfl) (Nat.le_of_ble_eq_true rfl) (Nat.le_of_ble_eq_true rfl) ?_
  show V E _ (wdX E.G a S' ++ wdM E.G a2 M) 1458 (lls b (a 0) (a2 0) i) [.int r]
  refine V_pb C hn [(.aload_n 2, 1)] (pc' := 1459) (ls' := lls b (a 0) (a2 0) i) (st' := [.ref (a2 0), .int r]) (decB_ok (by decide +kernel)) rfl rfl ?_
  refine V_arg C hn hX hi hL 1 (by omega) (decB_ok (by decide +kernel)) ?_
  refine V_callR C (As := [.int (xs (i + 1))]) (rest := [.int r]) (by decide +kernel) ok_yX5_many mk_RL_170 (cfX5_many (l := E.l) (G := E.G) a2 e2) (q0 := 0) rfl rfl rfl rfl rfl rfl (Nat.le_of_ble_eq_true rfl) (Nat.le_of_ble_eq_true rfl) (Nat.le_of_ble_eq_true rfl) ?_
  show V E _ (wdX E.G a S' ++ wdM E.G a2 M') 1467 (lls b (a 0) (a2 0) i) [.int r, .int r]
  exact V_ic_eq C (off := 406) (tgt := 1873) (by decide +kernel) (by decide) (o1 := some ()) (o2 := none) (out := ()) (if_pos rfl) (fun _ _ => hk _ _ hR') (fun q _ => absurd rfl q)
theorem lc_runs {E : VE} {Q : State → Prop} {b L i : Nat} {xs : Nat → Int32} {a a2 : Nat → Nat} {S : XT} {M : MT} (C : Ctx E code RL 30 ret) (hn : E.nL = 4) (hX : Scr E b L xs) (hi : i + 6 ≤ L) (hL : L ≤ 3072) (hR : Rel S M) (hk : ∀ S M, Rel S M → V E Q (wdX E.G a S ++ wdM E.G a2 M) 1873 (lls b (a 0) (a2 0) i) []) : V E Q (wdX E.G a S ++ wdM E.G a2 M) 1472 (lls b (a 0) (a2 0) i) [] := by
  obtain ⟨r, S', M', e1, e2, hR'⟩ := c_runs (p1 := xs (i + 1)) hR
  refine V_pb C hn [(.aload_n 1, 1)] (pc' := 1473) (ls' := lls b (a 0) (a2 0) i) (st' := [.ref (a 0)]) (decB_ok (by decide +kernel)) rfl rfl ?_
  refine V_arg C hn hX hi hL 1 (by omega) (decB_ok (by decide +kernel)) ?_
  refine V_callL C (As := [.int (xs (i + 1))]) (rest := []) (by decide +kernel) ok_yX4_runs mk_RL_171 (cfX4_runs (l := E.l) (G := E.G) a e1) (q0 := 0) rfl rfl rfl rfl rfl rfl (Nat.le_of_ble_eq_true rfl) (Nat.le_of_ble_eq_true rfl) (Nat.le_of_ble_eq_true rfl) ?_
  show V E _ (wdX E.G a S' ++ wdM E.G a2 M) 1481 (lls b (a 0) (a2 0) i) [.int r]
  refine V_pb C hn [(.aload_n 2, 1)] (pc' := 1482) (ls' := lls b (a 0) (a2 0) i) (st' := [.ref (a2 0), .int r]) (decB_ok (by decide +kernel)) rfl rfl ?_
  refine V_arg C hn hX hi hL 1 (by omega) (decB_ok (by decide +kernel)) ?_
  refine V_callR C (As := [.int (xs (i + 1))]) (rest := [.int r]) (by decide +kernel) ok_yX5_runs mk_RL_174 (cfX5_runs (l := E.l) (G := E.G) a2 e2) (q0 := 0) rfl rfl rfl rfl rfl rfl (Nat.le_of_ble_eq_true rfl) (Nat.le_of_ble_eq_true rfl) (Nat.le_of_ble_eq_true rfl) ?_
  show V E _ (wdX E.G a S' ++ wdM E.G a2 M') 1490 (lls b (a 0) (a2 0) i) [.int r, .int r]
  exact V_ic_eq C (off := 383) (tgt := 1873) (by decide +kernel) (by decide) (o1 := some ()) (o2 := none) (out := ()) (if_pos rfl) (fun _ _ => hk _ _ hR') (fun q _ => absurd rfl q)
theorem lc_together {E : VE} {Q : State → Prop} {b L i : Nat} {xs : Nat → Int32} {a a2 : Nat → Nat} {S : XT} {M : MT} (C : Ctx E code RL 30 ret) (hn : E.nL = 4) (hX : Scr E b L xs) (hi : i + 6 ≤ L) (hL : L ≤ 3072) (hR : Rel S M) (hk : ∀ S M, Rel S M → V E Q (wdX E.G a S ++ wdM E.G a2 M) 1873 (lls b (a 0) (a2 0) i) []) : V E Q (wdX E.G a S ++ wdM E.G a2 M) 1495 (lls b (a 0) (a2 0) i) [] := by
  obtain ⟨r, S', M', e1, e2, hR'⟩ := c_together (p1 := xs (i + 1)) (p2 := xs (i + 2)) hR
  refine V_pb C hn [(.aload_n 1, 1)] (pc' := 1496) (ls' := lls b (a 0) (a2 0) i) (st' := [.ref (a 0)]) (decB_ok (by decide +kernel)) rfl rfl ?_
  refine V_arg C hn hX hi hL 1 (by omega) (decB_ok (by decide +kernel)) ?_
  refine V_arg C hn hX hi hL 2 (by omega) (decB_ok (by decide +kernel)) ?_
  refine V_callL C (As := [.int (xs (i + 1)), .int (xs (i + 2))]) (rest := []) (by decide +kernel) ok_yX4_together mk_RL_175 (cfX4_together (l := E.l) (G := E.G) a e1) (q0 := 0) rfl rfl rfl rfl rfl rfl (Nat.le_of_ble_eq_true rfl) (Nat.le_of_ble_eq_true rfl) (Nat.le_of_ble_eq_true rfl) ?_
  show V E _ (wdX E.G a S' ++ wdM E.G a2 M) 1509 (lls b (a 0) (a2 0) i) [.int r]
  refine V_pb C hn [(.aload_n 2, 1)] (pc' := 1510) (ls' := lls b (a 0) (a2 0) i) (st' := [.ref (a2 0), .int r]) (decB_ok (by decide +kernel)) rfl rfl ?_
  refine V_arg C hn hX hi hL 1 (by omega) (decB_ok (by decide +kernel)) ?_
  refine V_arg C hn hX hi hL 2 (by omega) (decB_ok (by decide +kernel)) ?_
  refine V_callR C (As := [.int (xs (i + 1)), .int (xs (i + 2))]) (rest := [.int r]) (by decide +kernel) ok_yX5_together mk_RL_178 (cfX5_together (l := E.l) (G := E.G) a2 e2) (q0 := 0) rfl rfl rfl rfl rfl rfl (Nat.le_of_ble_eq_true rfl) (Nat.le_of_ble_eq_true rfl) (Nat.le_of_ble_eq_true rfl) ?_
  show V E _ (wdX E.G a S' ++ wdM E.G a2 M') 1523 (lls b (a 0) (a2 0) i) [.int r, .int r]
  exact V_ic_eq C (off := 350) (tgt := 1873) (by decide +kernel) (by decide) (o1 := some ()) (o2 := none) (out := ()) (if_pos rfl) (fun _ _ => hk _ _ hR') (fun q _ => absurd rfl q)
theorem lc_round {E : VE} {Q : State → Prop} {b L i : Nat} {xs : Nat → Int32} {a a2 : Nat → Nat} {S : XT} {M : MT} (C : Ctx E code RL 30 ret) (hn : E.nL = 4) (hX : Scr E b L xs) (hi : i + 6 ≤ L) (hL : L ≤ 3072) (hR : Rel S M) (hk : ∀ S M, Rel S M → V E Q (wdX E.G a S ++ wdM E.G a2 M) 1873 (lls b (a 0) (a2 0) i) []) : V E Q (wdX E.G a S ++ wdM E.G a2 M) 1528 (lls b (a 0) (a2 0) i) [] := by
  obtain ⟨r, S', M', e1, e2, hR'⟩ := c_round  hR
  refine V_pb C hn [(.aload_n 1, 1)] (pc' := 1529) (ls' := lls b (a 0) (a2 0) i) (st' := [.ref (a 0)]) (decB_ok (by decide +kernel)) rfl rfl ?_
  refine V_callL C (As := []) (rest := []) (by decide +kernel) ok_yX4_round mk_RL_179 (cfX4_round (l := E.l) (G := E.G) a e1) (q0 := 0) rfl rfl rfl rfl rfl rfl (Nat.le_of_ble_eq_true rfl) (Nat.le_of_ble_eq_true rfl) (Nat.le_of_ble_eq_true rfl) ?_
  show V E _ (wdX E.G a S' ++ wdM E.G a2 M) 1532 (lls b (a 0) (a2 0) i) [.int r]
  refine V_pb C hn [(.aload_n 2, 1)] (pc' := 1533) (ls' := lls b (a 0) (a2 0) i) (st' := [.ref (a2 0), .int r]) (decB_ok (by decide +kernel)) rfl rfl ?_
  refine V_callR C (As := []) (rest := [.int r]) (by decide +kernel) ok_yX5_round mk_RL_182 (cfX5_round (l := E.l) (G := E.G) a2 e2) (q0 := 0) rfl rfl rfl rfl rfl rfl (Nat.le_of_ble_eq_true rfl) (Nat.le_of_ble_eq_true rfl) (Nat.le_of_ble_eq_true rfl) ?_
  show V E _ (wdX E.G a S' ++ wdM E.G a2 M') 1536 (lls b (a 0) (a2 0) i) [.int r, .int r]
  exact V_ic_eq C (off := 337) (tgt := 1873) (by decide +kernel) (by decide) (o1 := some ()) (o2 := none) (out := ()) (if_pos rfl) (fun _ _ => hk _ _ hR') (fun q _ => absurd rfl q)
theorem lc_way {E : VE} {Q : State → Prop} {b L i : Nat} {xs : Nat → Int32} {a a2 : Nat → Nat} {S : XT} {M : MT} (C : Ctx E code RL 30 ret) (hn : E.nL = 4) (hX : Scr E b L xs) (hi : i + 6 ≤ L) (hL : L ≤ 3072) (hR : Rel S M) (hk : ∀ S M, Rel S M → V E Q (wdX E.G a S ++ wdM E.G a2 M) 1873 (lls b (a 0) (a2 0) i) []) : V E Q (wdX E.G a S ++ wdM E.G a2 M) 1541 (lls b (a 0) (a2 0) i) [] := by
  obtain ⟨r, S', M', e1, e2, hR'⟩ := c_way (p1 := xs (i + 1)) hR
  refine V_pb C hn [(.aload_n 1, 1)] (pc' := 1542) (ls' := lls b (a 0) (a2 0) i) (st' := [.ref (a 0)]) (decB_ok (by decide +kernel)) rfl rfl ?_
  refine V_arg C hn hX hi hL 1 (by omega) (decB_ok (by decide +kernel)) ?_
  refine V_callL C (As := [.int (xs (i + 1))]) (rest := []) (by decide +kernel) ok_yX4_way mk_RL_183 (cfX4_way (l := E.l) (G := E.G) a e1) (q0 := 0) rfl rfl rfl rfl rfl rfl (Nat.le_of_ble_eq_true rfl) (Nat.le_of_ble_eq_true rfl) (Nat.le_of_ble_eq_true rfl) ?_
  show V E _ (wdX E.G a S' ++ wdM E.G a2 M) 1550 (lls b (a 0) (a2 0) i) [.int r]
  refine V_pb C hn [(.aload_n 2, 1)] (pc' := 1551) (ls' := lls b (a 0) (a2 0) i) (st' := [.ref (a2 0), .int r]) (decB_ok (by decide +kernel)) rfl rfl ?_
  refine V_arg C hn hX hi hL 1 (by omega) (decB_ok (by decide +kernel)) ?_
  refine V_callR C (As := [.int (xs (i + 1))]) (rest := [.int r]) (by decide +kernel) ok_yX5_way mk_RL_186 (cfX5_way (l := E.l) (G := E.G) a2 e2) (q0 := 0) rfl rfl rfl rfl rfl rfl (Nat.le_of_ble_eq_true rfl) (Nat.le_of_ble_eq_true rfl) (Nat.le_of_ble_eq_true rfl) ?_
  show V E _ (wdX E.G a S' ++ wdM E.G a2 M') 1559 (lls b (a 0) (a2 0) i) [.int r, .int r]
  exact V_ic_eq C (off := 314) (tgt := 1873) (by decide +kernel) (by decide) (o1 := some ()) (o2 := none) (out := ()) (if_pos rfl) (fun _ _ => hk _ _ hR') (fun q _ => absurd rfl q)
theorem lc_walled {E : VE} {Q : State → Prop} {b L i : Nat} {xs : Nat → Int32} {a a2 : Nat → Nat} {S : XT} {M : MT} (C : Ctx E code RL 30 ret) (hn : E.nL = 4) (hX : Scr E b L xs) (hi : i + 6 ≤ L) (hL : L ≤ 3072) (hR : Rel S M) (hk : ∀ S M, Rel S M → V E Q (wdX E.G a S ++ wdM E.G a2 M) 1873 (lls b (a 0) (a2 0) i) []) : V E Q (wdX E.G a S ++ wdM E.G a2 M) 1564 (lls b (a 0) (a2 0) i) [] := by
  obtain ⟨r, S', M', e1, e2, hR'⟩ := c_walled (p1 := xs (i + 1)) hR
  refine V_pb C hn [(.aload_n 1, 1)] (pc' := 1565) (ls' := lls b (a 0) (a2 0) i) (st' := [.ref (a 0)]) (decB_ok (by decide +kernel)) rfl rfl ?_
  refine V_arg C hn hX hi hL 1 (by omega) (decB_ok (by decide +kernel)) ?_
  refine V_callL C (As := [.int (xs (i + 1))]) (rest := []) (by decide +kernel) ok_yX4_walled mk_RL_187 (cfX4_walled (l := E.l) (G := E.G) a e1) (q0 := 0) rfl rfl rfl rfl rfl rfl (Nat.le_of_ble_eq_true rfl) (Nat.le_of_ble_eq_true rfl) (Nat.le_of_ble_eq_true rfl) ?_
  show V E _ (wdX E.G a S' ++ wdM E.G a2 M) 1573 (lls b (a 0) (a2 0) i) [.int r]
  refine V_pb C hn [(.aload_n 2, 1)] (pc' := 1574) (ls' := lls b (a 0) (a2 0) i) (st' := [.ref (a2 0), .int r]) (decB_ok (by decide +kernel)) rfl rfl ?_
  refine V_arg C hn hX hi hL 1 (by omega) (decB_ok (by decide +kernel)) ?_
  refine V_callR C (As := [.int (xs (i + 1))]) (rest := [.int r]) (by decide +kernel) ok_yX5_walled mk_RL_190 (cfX5_walled (l := E.l) (G := E.G) a2 e2) (q0 := 0) rfl rfl rfl rfl rfl rfl (Nat.le_of_ble_eq_true rfl) (Nat.le_of_ble_eq_true rfl) (Nat.le_of_ble_eq_true rfl) ?_
  show V E _ (wdX E.G a S' ++ wdM E.G a2 M') 1582 (lls b (a 0) (a2 0) i) [.int r, .int r]
  exact V_ic_eq C (off := 291) (tgt := 1873) (by decide +kernel) (by decide) (o1 := some ()) (o2 := none) (out := ()) (if_pos rfl) (fun _ _ => hk _ _ hR') (fun q _ => absurd rfl q)
theorem lc_doorFor {E : VE} {Q : State → Prop} {b L i : Nat} {xs : Nat → Int32} {a a2 : Nat → Nat} {S : XT} {M : MT} (C : Ctx E code RL 30 ret) (hn : E.nL = 4) (hX : Scr E b L xs) (hi : i + 6 ≤ L) (hL : L ≤ 3072) (hR : Rel S M) (hk : ∀ S M, Rel S M → V E Q (wdX E.G a S ++ wdM E.G a2 M) 1873 (lls b (a 0) (a2 0) i) []) : V E Q (wdX E.G a S ++ wdM E.G a2 M) 1587 (lls b (a 0) (a2 0) i) [] := by
  obtain ⟨r, S', M', e1, e2, hR'⟩ := c_doorFor (p1 := xs (i + 1)) hR
  refine V_pb C hn [(.aload_n 1, 1)] (pc' := 1588) (ls' := lls b (a 0) (a2 0) i) (st' := [.ref (a 0)]) (decB_ok (by decide +kernel)) rfl rfl ?_
  refine V_arg C hn hX hi hL 1 (by omega) (decB_ok (by decide +kernel)) ?_
  refine V_callL C (As := [.int (xs (i + 1))]) (rest := []) (by decide +kernel) ok_yX4_doorFor mk_RL_191 (cfX4_doorFor (l := E.l) (G := E.G) a e1) (q0 := 0) rfl rfl rfl rfl rfl rfl (Nat.le_of_ble_eq_true rfl) (Nat.le_of_ble_eq_true rfl) (Nat.le_of_ble_eq_true rfl) ?_
  show V E _ (wdX E.G a S' ++ wdM E.G a2 M) 1596 (lls b (a 0) (a2 0) i) [.int r]
  refine V_pb C hn [(.aload_n 2, 1)] (pc' := 1597) (ls' := lls b (a 0) (a2 0) i) (st' := [.ref (a2 0), .int r]) (decB_ok (by decide +kernel)) rfl rfl ?_
  refine V_arg C hn hX hi hL 1 (by omega) (decB_ok (by decide +kernel)) ?_
  refine V_callR C (As := [.int (xs (i + 1))]) (rest := [.int r]) (by decide +kernel) ok_yX5_doorFor mk_RL_194 (cfX5_doorFor (l := E.l) (G := E.G) a2 e2) (q0 := 0) rfl rfl rfl rfl rfl rfl (Nat.le_of_ble_eq_true rfl) (Nat.le_of_ble_eq_true rfl) (Nat.le_of_ble_eq_true rfl) ?_
  show V E _ (wdX E.G a S' ++ wdM E.G a2 M') 1605 (lls b (a 0) (a2 0) i) [.int r, .int r]
  exact V_ic_eq C (off := 268) (tgt := 1873) (by decide +kernel) (by decide) (o1 := some ()) (o2 := none) (out := ()) (if_pos rfl) (fun _ _ => hk _ _ hR') (fun q _ => absurd rfl q)
theorem lc_stirred {E : VE} {Q : State → Prop} {b L i : Nat} {xs : Nat → Int32} {a a2 : Nat → Nat} {S : XT} {M : MT} (C : Ctx E code RL 30 ret) (hn : E.nL = 4) (hX : Scr E b L xs) (hi : i + 6 ≤ L) (hL : L ≤ 3072) (hR : Rel S M) (hk : ∀ S M, Rel S M → V E Q (wdX E.G a S ++ wdM E.G a2 M) 1873 (lls b (a 0) (a2 0) i) []) : V E Q (wdX E.G a S ++ wdM E.G a2 M) 1610 (lls b (a 0) (a2 0) i) [] := by
  obtain ⟨r, e1, e2⟩ := c_stirred  hR
  refine V_pb C hn [(.aload_n 1, 1)] (pc' := 1611) (ls' := lls b (a 0) (a2 0) i) (st' := [.ref (a 0)]) (decB_ok (by decide +kernel)) rfl rfl ?_
  refine V_callL C (As := []) (rest := []) (by decide +kernel) ok_yX4_stirred mk_RL_195 (cfX4_stirred (l := E.l) (G := E.G) a e1) (q0 := 0) rfl rfl rfl rfl rfl rfl (Nat.le_of_ble_eq_true rfl) (Nat.le_of_ble_eq_true rfl) (Nat.le_of_ble_eq_true rfl) ?_
  show V E _ (wdX E.G a S ++ wdM E.G a2 M) 1614 (lls b (a 0) (a2 0) i) [.int r]
  refine V_pb C hn [(.aload_n 2, 1)] (pc' := 1615) (ls' := lls b (a 0) (a2 0) i) (st' := [.ref (a2 0), .int r]) (decB_ok (by decide +kernel)) rfl rfl ?_
  refine V_callR C (As := []) (rest := [.int r]) (by decide +kernel) ok_yX5_stirred mk_RL_198 (cfX5_stirred (l := E.l) (G := E.G) a2 e2) (q0 := 0) rfl rfl rfl rfl rfl rfl (Nat.le_of_ble_eq_true rfl) (Nat.le_of_ble_eq_true rfl) (Nat.le_of_ble_eq_true rfl) ?_
  show V E _ (wdX E.G a S ++ wdM E.G a2 M) 1618 (lls b (a 0) (a2 0) i) [.int r, .int r]
  exact V_ic_eq C (off := 255) (tgt := 1873) (by decide +kernel) (by decide) (o1 := some ()) (o2 := none) (out := ()) (if_pos rfl) (fun _ _ => hk _ _ hR) (fun q _ => absurd rfl q)
theorem lc_ofKind {E : VE} {Q : State → Prop} {b L i : Nat} {xs : Nat → Int32} {a a2 : Nat → Nat} {S : XT} {M : MT} (C : Ctx E code RL 30 ret) (hn : E.nL = 4) (hX : Scr E b L xs) (hi : i + 6 ≤ L) (hL : L ≤ 3072) (hR : Rel S M) (hk : ∀ S M, Rel S M → V E Q (wdX E.G a S ++ wdM E.G a2 M) 1873 (lls b (a 0) (a2 0) i) []) : V E Q (wdX E.G a S ++ wdM E.G a2 M) 1623 (lls b (a 0) (a2 0) i) [] := by
  obtain ⟨r, S', M', e1, e2, hR'⟩ := c_ofKind (p1 := xs (i + 1)) hR
  refine V_pb C hn [(.aload_n 1, 1)] (pc' := 1624) (ls' := lls b (a 0) (a2 0) i) (st' := [.ref (a 0)]) (decB_ok (by decide +kernel)) rfl rfl ?_
  refine V_arg C hn hX hi hL 1 (by omega) (decB_ok (by decide +kernel)) ?_
  refine V_callL C (As := [.int (xs (i + 1))]) (rest := []) (by decide +kernel) ok_yX4_ofKind mk_RL_199 (cfX4_ofKind (l := E.l) (G := E.G) a e1) (q0 := 0) rfl rfl rfl rfl rfl rfl (Nat.le_of_ble_eq_true rfl) (Nat.le_of_ble_eq_true rfl) (Nat.le_of_ble_eq_true rfl) ?_
  show V E _ (wdX E.G a S' ++ wdM E.G a2 M) 1632 (lls b (a 0) (a2 0) i) [.int r]
  refine V_pb C hn [(.aload_n 2, 1)] (pc' := 1633) (ls' := lls b (a 0) (a2 0) i) (st' := [.ref (a2 0), .int r]) (decB_ok (by decide +kernel)) rfl rfl ?_
  refine V_arg C hn hX hi hL 1 (by omega) (decB_ok (by decide +kernel)) ?_
  refine V_callR C (As := [.int (xs (i + 1))]) (rest := [.int r]) (by decide +kernel) ok_yX5_ofKind mk_RL_202 (cfX5_ofKind (l := E.l) (G := E.G) a2 e2) (q0 := 0) rfl rfl rfl rfl rfl rfl (Nat.le_of_ble_eq_true rfl) (Nat.le_of_ble_eq_true rfl) (Nat.le_of_ble_eq_true rfl) ?_
  show V E _ (wdX E.G a S' ++ wdM E.G a2 M') 1641 (lls b (a 0) (a2 0) i) [.int r, .int r]
  exact V_ic_eq C (off := 232) (tgt := 1873) (by decide +kernel) (by decide) (o1 := some ()) (o2 := none) (out := ()) (if_pos rfl) (fun _ _ => hk _ _ hR') (fun q _ => absurd rfl q)
theorem lc_judge {E : VE} {Q : State → Prop} {b L i : Nat} {xs : Nat → Int32} {a a2 : Nat → Nat} {S : XT} {M : MT} (C : Ctx E code RL 30 ret) (hn : E.nL = 4) (hX : Scr E b L xs) (hi : i + 6 ≤ L) (hL : L ≤ 3072) (hR : Rel S M) (hk : ∀ S M, Rel S M → V E Q (wdX E.G a S ++ wdM E.G a2 M) 1873 (lls b (a 0) (a2 0) i) []) : V E Q (wdX E.G a S ++ wdM E.G a2 M) 1646 (lls b (a 0) (a2 0) i) [] := by
  obtain ⟨r, S', M', e1, e2, hR'⟩ := c_judge (p1 := xs (i + 1)) (p2 := xs (i + 2)) hR
  refine V_pb C hn [(.aload_n 1, 1)] (pc' := 1647) (ls' := lls b (a 0) (a2 0) i) (st' := [.ref (a 0)]) (decB_ok (by decide +kernel)) rfl rfl ?_
  refine V_arg C hn hX hi hL 1 (by omega) (decB_ok (by decide +kernel)) ?_
  refine V_arg C hn hX hi hL 2 (by omega) (decB_ok (by decide +kernel)) ?_
  refine V_callL C (As := [.int (xs (i + 1)), .int (xs (i + 2))]) (rest := []) (by decide +kernel) ok_yX4_judge mk_RL_203 (cfX4_judge (l := E.l) (G := E.G) a e1) (q0 := 0) rfl rfl rfl rfl rfl rfl (Nat.le_of_ble_eq_true rfl) (Nat.le_of_ble_eq_true rfl) (Nat.le_of_ble_eq_true rfl) ?_
  show V E _ (wdX E.G a S' ++ wdM E.G a2 M) 1660 (lls b (a 0) (a2 0) i) [.int r]
  refine V_pb C hn [(.aload_n 2, 1)] (pc' := 1661) (ls' := lls b (a 0) (a2 0) i) (st' := [.ref (a2 0), .int r]) (decB_ok (by decide +kernel)) rfl rfl ?_
  refine V_arg C hn hX hi hL 1 (by omega) (decB_ok (by decide +kernel)) ?_
  refine V_arg C hn hX hi hL 2 (by omega) (decB_ok (by decide +kernel)) ?_
  refine V_callR C (As := [.int (xs (i + 1)), .int (xs (i + 2))]) (rest := [.int r]) (by decide +kernel) ok_yX5_judge mk_RL_206 (cfX5_judge (l := E.l) (G := E.G) a2 e2) (q0 := 0) rfl rfl rfl rfl rfl rfl (Nat.le_of_ble_eq_true rfl) (Nat.le_of_ble_eq_true rfl) (Nat.le_of_ble_eq_true rfl) ?_
  show V E _ (wdX E.G a S' ++ wdM E.G a2 M') 1674 (lls b (a 0) (a2 0) i) [.int r, .int r]
  exact V_ic_eq C (off := 199) (tgt := 1873) (by decide +kernel) (by decide) (o1 := some ()) (o2 := none) (out := ()) (if_pos rfl) (fun _ _ => hk _ _ hR') (fun q _ => absurd rfl q)
theorem lc_behind {E : VE} {Q : State → Prop} {b L i : Nat} {xs : Nat → Int32} {a a2 : Nat → Nat} {S : XT} {M : MT} (C : Ctx E code RL 30 ret) (hn : E.nL = 4) (hX : Scr E b L xs) (hi : i + 6 ≤ L) (hL : L ≤ 3072) (hR : Rel S M) (hk : ∀ S M, Rel S M → V E Q (wdX E.G a S ++ wdM E.G a2 M) 1873 (lls b (a 0) (a2 0) i) []) : V E Q (wdX E.G a S ++ wdM E.G a2 M) 1679 (lls b (a 0) (a2 0) i) [] := by
  obtain ⟨r, S', M', e1, e2, hR'⟩ := c_behind (p1 := xs (i + 1)) (p2 := xs (i + 2)) (p3 := xs (i + 3)) hR
  refine V_pb C hn [(.aload_n 1, 1)] (pc' := 1680) (ls' := lls b (a 0) (a2 0) i) (st' := [.ref (a 0)]) (decB_ok (by decide +kernel)) rfl rfl ?_
  refine V_arg C hn hX hi hL 1 (by omega) (decB_ok (by decide +kernel)) ?_
  refine V_arg C hn hX hi hL 2 (by omega) (decB_ok (by decide +kernel)) ?_
  refine V_arg C hn hX hi hL 3 (by omega) (decB_ok (by decide +kernel)) ?_
  refine V_callL C (As := [.int (xs (i + 1)), .int (xs (i + 2)), .int (xs (i + 3))]) (rest := []) (by decide +kernel) ok_yX4_behind mk_RL_207 (cfX4_behind (l := E.l) (G := E.G) a e1) (q0 := 0) rfl rfl rfl rfl rfl rfl (Nat.le_of_ble_eq_true rfl) (Nat.le_of_ble_eq_true rfl) (Nat.le_of_ble_eq_true rfl) ?_
  show V E _ (wdX E.G a S' ++ wdM E.G a2 M) 1698 (lls b (a 0) (a2 0) i) [.int r]
  refine V_pb C hn [(.aload_n 2, 1)] (pc' := 1699) (ls' := lls b (a 0) (a2 0) i) (st' := [.ref (a2 0), .int r]) (decB_ok (by decide +kernel)) rfl rfl ?_
  refine V_arg C hn hX hi hL 1 (by omega) (decB_ok (by decide +kernel)) ?_
  refine V_arg C hn hX hi hL 2 (by omega) (decB_ok (by decide +kernel)) ?_
  refine V_arg C hn hX hi hL 3 (by omega) (decB_ok (by decide +kernel)) ?_
  refine V_callR C (As := [.int (xs (i + 1)), .int (xs (i + 2)), .int (xs (i + 3))]) (rest := [.int r]) (by decide +kernel) ok_yX5_behind mk_RL_210 (cfX5_behind (l := E.l) (G := E.G) a2 e2) (q0 := 0) rfl rfl rfl rfl rfl rfl (Nat.le_of_ble_eq_true rfl) (Nat.le_of_ble_eq_true rfl) (Nat.le_of_ble_eq_true rfl) ?_
  show V E _ (wdX E.G a S' ++ wdM E.G a2 M') 1717 (lls b (a 0) (a2 0) i) [.int r, .int r]
  exact V_ic_eq C (off := 156) (tgt := 1873) (by decide +kernel) (by decide) (o1 := some ()) (o2 := none) (out := ()) (if_pos rfl) (fun _ _ => hk _ _ hR') (fun q _ => absurd rfl q)
theorem lc_done {E : VE} {Q : State → Prop} {b L i : Nat} {xs : Nat → Int32} {a a2 : Nat → Nat} {S : XT} {M : MT} (C : Ctx E code RL 30 ret) (hn : E.nL = 4) (hX : Scr E b L xs) (hi : i + 6 ≤ L) (hL : L ≤ 3072) (hR : Rel S M) (hk : ∀ S M, Rel S M → V E Q (wdX E.G a S ++ wdM E.G a2 M) 1873 (lls b (a 0) (a2 0) i) []) : V E Q (wdX E.G a S ++ wdM E.G a2 M) 1722 (lls b (a 0) (a2 0) i) [] := by
  obtain ⟨r, S', M', e1, e2, hR'⟩ := c_done (p1 := xs (i + 1)) (p2 := xs (i + 2)) hR
  refine V_pb C hn [(.aload_n 1, 1)] (pc' := 1723) (ls' := lls b (a 0) (a2 0) i) (st' := [.ref (a 0)]) (decB_ok (by decide +kernel)) rfl rfl ?_
  refine V_arg C hn hX hi hL 1 (by omega) (decB_ok (by decide +kernel)) ?_
  refine V_arg C hn hX hi hL 2 (by omega) (decB_ok (by decide +kernel)) ?_
  refine V_callL C (As := [.int (xs (i + 1)), .int (xs (i + 2))]) (rest := []) (by decide +kernel) ok_yX4_done mk_RL_211 (cfX4_done (l := E.l) (G := E.G) a e1) (q0 := 0) rfl rfl rfl rfl rfl rfl (Nat.le_of_ble_eq_true rfl) (Nat.le_of_ble_eq_true rfl) (Nat.le_of_ble_eq_true rfl) ?_
  show V E _ (wdX E.G a S' ++ wdM E.G a2 M) 1736 (lls b (a 0) (a2 0) i) [.int r]
  refine V_pb C hn [(.aload_n 2, 1)] (pc' := 1737) (ls' := lls b (a 0) (a2 0) i) (st' := [.ref (a2 0), .int r]) (decB_ok (by decide +kernel)) rfl rfl ?_
  refine V_arg C hn hX hi hL 1 (by omega) (decB_ok (by decide +kernel)) ?_
  refine V_arg C hn hX hi hL 2 (by omega) (decB_ok (by decide +kernel)) ?_
  refine V_callR C (As := [.int (xs (i + 1)), .int (xs (i + 2))]) (rest := [.int r]) (by decide +kernel) ok_yX5_done mk_RL_214 (cfX5_done (l := E.l) (G := E.G) a2 e2) (q0 := 0) rfl rfl rfl rfl rfl rfl (Nat.le_of_ble_eq_true rfl) (Nat.le_of_ble_eq_true rfl) (Nat.le_of_ble_eq_true rfl) ?_
  show V E _ (wdX E.G a S' ++ wdM E.G a2 M') 1750 (lls b (a 0) (a2 0) i) [.int r, .int r]
  exact V_ic_eq C (off := 123) (tgt := 1873) (by decide +kernel) (by decide) (o1 := some ()) (o2 := none) (out := ()) (if_pos rfl) (fun _ _ => hk _ _ hR') (fun q _ => absurd rfl q)
theorem lc_steps {E : VE} {Q : State → Prop} {b L i : Nat} {xs : Nat → Int32} {a a2 : Nat → Nat} {S : XT} {M : MT} (C : Ctx E code RL 30 ret) (hn : E.nL = 4) (hX : Scr E b L xs) (hi : i + 6 ≤ L) (hL : L ≤ 3072) (hR : Rel S M) (hk : ∀ S M, Rel S M → V E Q (wdX E.G a S ++ wdM E.G a2 M) 1873 (lls b (a 0) (a2 0) i) []) : V E Q (wdX E.G a S ++ wdM E.G a2 M) 1755 (lls b (a 0) (a2 0) i) [] := by
  obtain ⟨r, S', M', e1, e2, hR'⟩ := c_steps (p1 := xs (i + 1)) hR
  refine V_pb C hn [(.aload_n 1, 1)] (pc' := 1756) (ls' := lls b (a 0) (a2 0) i) (st' := [.ref (a 0)]) (decB_ok (by decide +kernel)) rfl rfl ?_
  refine V_arg C hn hX hi hL 1 (by omega) (decB_ok (by decide +kernel)) ?_
  refine V_callL C (As := [.int (xs (i + 1))]) (rest := []) (by decide +kernel) ok_yX4_steps mk_RL_215 (cfX4_steps (l := E.l) (G := E.G) a e1) (q0 := 0) rfl rfl rfl rfl rfl rfl (Nat.le_of_ble_eq_true rfl) (Nat.le_of_ble_eq_true rfl) (Nat.le_of_ble_eq_true rfl) ?_
  show V E _ (wdX E.G a S' ++ wdM E.G a2 M) 1764 (lls b (a 0) (a2 0) i) [.int r]
  refine V_pb C hn [(.aload_n 2, 1)] (pc' := 1765) (ls' := lls b (a 0) (a2 0) i) (st' := [.ref (a2 0), .int r]) (decB_ok (by decide +kernel)) rfl rfl ?_
  refine V_arg C hn hX hi hL 1 (by omega) (decB_ok (by decide +kernel)) ?_
  refine V_callR C (As := [.int (xs (i + 1))]) (rest := [.int r]) (by decide +kernel) ok_yX5_steps mk_RL_218 (cfX5_steps (l := E.l) (G := E.G) a2 e2) (q0 := 0) rfl rfl rfl rfl rfl rfl (Nat.le_of_ble_eq_true rfl) (Nat.le_of_ble_eq_true rfl) (Nat.le_of_ble_eq_true rfl) ?_
  show V E _ (wdX E.G a S' ++ wdM E.G a2 M') 1773 (lls b (a 0) (a2 0) i) [.int r, .int r]
  exact V_ic_eq C (off := 100) (tgt := 1873) (by decide +kernel) (by decide) (o1 := some ()) (o2 := none) (out := ()) (if_pos rfl) (fun _ _ => hk _ _ hR') (fun q _ => absurd rfl q)
theorem lc_hours {E : VE} {Q : State → Prop} {b L i : Nat} {xs : Nat → Int32} {a a2 : Nat → Nat} {S : XT} {M : MT} (C : Ctx E code RL 30 ret) (hn : E.nL = 4) (hX : Scr E b L xs) (hi : i + 6 ≤ L) (hL : L ≤ 3072) (hR : Rel S M) (hk : ∀ S M, Rel S M → V E Q (wdX E.G a S ++ wdM E.G a2 M) 1873 (lls b (a 0) (a2 0) i) []) : V E Q (wdX E.G a S ++ wdM E.G a2 M) 1778 (lls b (a 0) (a2 0) i) [] := by
  obtain ⟨r, S', M', e1, e2, hR'⟩ := c_hours (p1 := xs (i + 1)) hR
  refine V_pb C hn [(.aload_n 1, 1)] (pc' := 1779) (ls' := lls b (a 0) (a2 0) i) (st' := [.ref (a 0)]) (decB_ok (by decide +kernel)) rfl rfl ?_
  refine V_arg C hn hX hi hL 1 (by omega) (decB_ok (by decide +kernel)) ?_
  refine V_callL C (As := [.int (xs (i + 1))]) (rest := []) (by decide +kernel) ok_yX4_hours mk_RL_219 (cfX4_hours (l := E.l) (G := E.G) a e1) (q0 := 0) rfl rfl rfl rfl rfl rfl (Nat.le_of_ble_eq_true rfl) (Nat.le_of_ble_eq_true rfl) (Nat.le_of_ble_eq_true rfl) ?_
  show V E _ (wdX E.G a S' ++ wdM E.G a2 M) 1787 (lls b (a 0) (a2 0) i) [.int r]
  refine V_pb C hn [(.aload_n 2, 1)] (pc' := 1788) (ls' := lls b (a 0) (a2 0) i) (st' := [.ref (a2 0), .int r]) (decB_ok (by decide +kernel)) rfl rfl ?_
  refine V_arg C hn hX hi hL 1 (by omega) (decB_ok (by decide +kernel)) ?_
  refine V_callR C (As := [.int (xs (i + 1))]) (rest := [.int r]) (by decide +kernel) ok_yX5_hours mk_RL_222 (cfX5_hours (l := E.l) (G := E.G) a2 e2) (q0 := 0) rfl rfl rfl rfl rfl rfl (Nat.le_of_ble_eq_true rfl) (Nat.le_of_ble_eq_true rfl) (Nat.le_of_ble_eq_true rfl) ?_
  show V E _ (wdX E.G a S' ++ wdM E.G a2 M') 1796 (lls b (a 0) (a2 0) i) [.int r, .int r]
  exact V_ic_eq C (off := 77) (tgt := 1873) (by decide +kernel) (by decide) (o1 := some ()) (o2 := none) (out := ()) (if_pos rfl) (fun _ _ => hk _ _ hR') (fun q _ => absurd rfl q)
theorem lc_seed {E : VE} {Q : State → Prop} {b L i : Nat} {xs : Nat → Int32} {a a2 : Nat → Nat} {S : XT} {M : MT} (C : Ctx E code RL 30 ret) (hn : E.nL = 4) (hX : Scr E b L xs) (hi : i + 6 ≤ L) (hL : L ≤ 3072) (hR : Rel S M) (hk : ∀ S M, Rel S M → V E Q (wdX E.G a S ++ wdM E.G a2 M) 1873 (lls b (a 0) (a2 0) i) []) : V E Q (wdX E.G a S ++ wdM E.G a2 M) 1801 (lls b (a 0) (a2 0) i) [] := by
  obtain ⟨r, S', M', e1, e2, hR'⟩ := c_seed (p1 := xs (i + 1)) hR
  refine V_pb C hn [(.aload_n 1, 1)] (pc' := 1802) (ls' := lls b (a 0) (a2 0) i) (st' := [.ref (a 0)]) (decB_ok (by decide +kernel)) rfl rfl ?_
  refine V_arg C hn hX hi hL 1 (by omega) (decB_ok (by decide +kernel)) ?_
  refine V_callL C (As := [.int (xs (i + 1))]) (rest := []) (by decide +kernel) ok_yX4_seed mk_RL_223 (cfX4_seed (l := E.l) (G := E.G) a e1) (q0 := 0) rfl rfl rfl rfl rfl rfl (Nat.le_of_ble_eq_true rfl) (Nat.le_of_ble_eq_true rfl) (Nat.le_of_ble_eq_true rfl) ?_
  show V E _ (wdX E.G a S' ++ wdM E.G a2 M) 1810 (lls b (a 0) (a2 0) i) [.int r]
  refine V_pb C hn [(.aload_n 2, 1)] (pc' := 1811) (ls' := lls b (a 0) (a2 0) i) (st' := [.ref (a2 0), .int r]) (decB_ok (by decide +kernel)) rfl rfl ?_
  refine V_arg C hn hX hi hL 1 (by omega) (decB_ok (by decide +kernel)) ?_
  refine V_callR C (As := [.int (xs (i + 1))]) (rest := [.int r]) (by decide +kernel) ok_yX5_seed mk_RL_226 (cfX5_seed (l := E.l) (G := E.G) a2 e2) (q0 := 0) rfl rfl rfl rfl rfl rfl (Nat.le_of_ble_eq_true rfl) (Nat.le_of_ble_eq_true rfl) (Nat.le_of_ble_eq_true rfl) ?_
  show V E _ (wdX E.G a S' ++ wdM E.G a2 M') 1819 (lls b (a 0) (a2 0) i) [.int r, .int r]
  exact V_ic_eq C (off := 54) (tgt := 1873) (by decide +kernel) (by decide) (o1 := some ()) (o2 := none) (out := ()) (if_pos rfl) (fun _ _ => hk _ _ hR') (fun q _ => absurd rfl q)
theorem lc_image {E : VE} {Q : State → Prop} {b L i : Nat} {xs : Nat → Int32} {a a2 : Nat → Nat} {S : XT} {M : MT} (C : Ctx E code RL 30 ret) (hn : E.nL = 4) (hX : Scr E b L xs) (hi : i + 6 ≤ L) (hL : L ≤ 3072) (hR : Rel S M) (hk : ∀ S M, Rel S M → V E Q (wdX E.G a S ++ wdM E.G a2 M) 1873 (lls b (a 0) (a2 0) i) []) : V E Q (wdX E.G a S ++ wdM E.G a2 M) 1824 (lls b (a 0) (a2 0) i) [] := by
  obtain ⟨r, S', M', e1, e2, hR'⟩ := c_image  hR
  refine V_pb C hn [(.aload_n 1, 1)] (pc' := 1825) (ls' := lls b (a 0) (a2 0) i) (st' := [.ref (a 0)]) (decB_ok (by decide +kernel)) rfl rfl ?_
  refine V_callL C (As := []) (rest := []) (by decide +kernel) ok_yX4_image mk_RL_227 (cfX4_image (l := E.l) (G := E.G) a e1) (q0 := 0) rfl rfl rfl rfl rfl rfl (Nat.le_of_ble_eq_true rfl) (Nat.le_of_ble_eq_true rfl) (Nat.le_of_ble_eq_true rfl) ?_
  show V E _ (wdX E.G a S' ++ wdM E.G a2 M) 1828 (lls b (a 0) (a2 0) i) [.int r]
  refine V_pb C hn [(.aload_n 2, 1)] (pc' := 1829) (ls' := lls b (a 0) (a2 0) i) (st' := [.ref (a2 0), .int r]) (decB_ok (by decide +kernel)) rfl rfl ?_
  refine V_callR C (As := []) (rest := [.int r]) (by decide +kernel) ok_yX5_image mk_RL_230 (cfX5_image (l := E.l) (G := E.G) a2 e2) (q0 := 0) rfl rfl rfl rfl rfl rfl (Nat.le_of_ble_eq_true rfl) (Nat.le_of_ble_eq_true rfl) (Nat.le_of_ble_eq_true rfl) ?_
  show V E _ (wdX E.G a S' ++ wdM E.G a2 M') 1832 (lls b (a 0) (a2 0) i) [.int r, .int r]
  exact V_ic_eq C (off := 41) (tgt := 1873) (by decide +kernel) (by decide) (o1 := some ()) (o2 := none) (out := ()) (if_pos rfl) (fun _ _ => hk _ _ hR') (fun q _ => absurd rfl q)
theorem lc_back {E : VE} {Q : State → Prop} {b L i : Nat} {xs : Nat → Int32} {a a2 : Nat → Nat} {S : XT} {M : MT} (C : Ctx E code RL 30 ret) (hn : E.nL = 4) (hX : Scr E b L xs) (hi : i + 6 ≤ L) (hL : L ≤ 3072) (hR : Rel S M) (hk : ∀ S M, Rel S M → V E Q (wdX E.G a S ++ wdM E.G a2 M) 1873 (lls b (a 0) (a2 0) i) []) : V E Q (wdX E.G a S ++ wdM E.G a2 M) 1837 (lls b (a 0) (a2 0) i) [] := by
  obtain ⟨r, S', M', e1, e2, hR'⟩ := c_back  hR
  refine V_pb C hn [(.aload_n 1, 1)] (pc' := 1838) (ls' := lls b (a 0) (a2 0) i) (st' := [.ref (a 0)]) (decB_ok (by decide +kernel)) rfl rfl ?_
  refine V_callL C (As := []) (rest := []) (by decide +kernel) ok_yX4_back mk_RL_231 (cfX4_back (l := E.l) (G := E.G) a e1) (q0 := 0) rfl rfl rfl rfl rfl rfl (Nat.le_of_ble_eq_true rfl) (Nat.le_of_ble_eq_true rfl) (Nat.le_of_ble_eq_true rfl) ?_
  show V E _ (wdX E.G a S' ++ wdM E.G a2 M) 1841 (lls b (a 0) (a2 0) i) [.int r]
  refine V_pb C hn [(.aload_n 2, 1)] (pc' := 1842) (ls' := lls b (a 0) (a2 0) i) (st' := [.ref (a2 0), .int r]) (decB_ok (by decide +kernel)) rfl rfl ?_
  refine V_callR C (As := []) (rest := [.int r]) (by decide +kernel) ok_yX5_back mk_RL_234 (cfX5_back (l := E.l) (G := E.G) a2 e2) (q0 := 0) rfl rfl rfl rfl rfl rfl (Nat.le_of_ble_eq_true rfl) (Nat.le_of_ble_eq_true rfl) (Nat.le_of_ble_eq_true rfl) ?_
  show V E _ (wdX E.G a S' ++ wdM E.G a2 M') 1845 (lls b (a 0) (a2 0) i) [.int r, .int r]
  exact V_ic_eq C (off := 28) (tgt := 1873) (by decide +kernel) (by decide) (o1 := some ()) (o2 := none) (out := ()) (if_pos rfl) (fun _ _ => hk _ _ hR') (fun q _ => absurd rfl q)
theorem lc_status {E : VE} {Q : State → Prop} {b L i : Nat} {xs : Nat → Int32} {a a2 : Nat → Nat} {S : XT} {M : MT} (C : Ctx E code RL 30 ret) (hn : E.nL = 4) (hX : Scr E b L xs) (hi : i + 6 ≤ L) (hL : L ≤ 3072) (hR : Rel S M) (hk : ∀ S M, Rel S M → V E Q (wdX E.G a S ++ wdM E.G a2 M) 1873 (lls b (a 0) (a2 0) i) []) : V E Q (wdX E.G a S ++ wdM E.G a2 M) 1850 (lls b (a 0) (a2 0) i) [] := by
  obtain ⟨r, e1, e2⟩ := c_status (p1 := xs (i + 1)) hR
  refine V_pb C hn [(.aload_n 1, 1)] (pc' := 1851) (ls' := lls b (a 0) (a2 0) i) (st' := [.ref (a 0)]) (decB_ok (by decide +kernel)) rfl rfl ?_
  refine V_arg C hn hX hi hL 1 (by omega) (decB_ok (by decide +kernel)) ?_
  refine V_callL C (As := [.int (xs (i + 1))]) (rest := []) (by decide +kernel) ok_yX4_status mk_RL_235 (cfX4_status (l := E.l) (G := E.G) a e1) (q0 := 0) rfl rfl rfl rfl rfl rfl (Nat.le_of_ble_eq_true rfl) (Nat.le_of_ble_eq_true rfl) (Nat.le_of_ble_eq_true rfl) ?_
  show V E _ (wdX E.G a S ++ wdM E.G a2 M) 1859 (lls b (a 0) (a2 0) i) [.int r]
  refine V_pb C hn [(.aload_n 2, 1)] (pc' := 1860) (ls' := lls b (a 0) (a2 0) i) (st' := [.ref (a2 0), .int r]) (decB_ok (by decide +kernel)) rfl rfl ?_
  refine V_arg C hn hX hi hL 1 (by omega) (decB_ok (by decide +kernel)) ?_
  refine V_callR C (As := [.int (xs (i + 1))]) (rest := [.int r]) (by decide +kernel) ok_yX5_status mk_RL_238 (cfX5_status (l := E.l) (G := E.G) a2 e2) (q0 := 0) rfl rfl rfl rfl rfl rfl (Nat.le_of_ble_eq_true rfl) (Nat.le_of_ble_eq_true rfl) (Nat.le_of_ble_eq_true rfl) ?_
  show V E _ (wdX E.G a S ++ wdM E.G a2 M) 1868 (lls b (a 0) (a2 0) i) [.int r, .int r]
  exact V_ic_eq C (off := 5) (tgt := 1873) (by decide +kernel) (by decide) (o1 := some ()) (o2 := none) (out := ()) (if_pos rfl) (fun _ _ => hk _ _ hR) (fun q _ => absurd rfl q)
theorem law_cases {E : VE} {Q : State → Prop} {b L i : Nat} {xs : Nat → Int32} {a a2 : Nat → Nat} {S : XT} {M : MT} (C : Ctx E code RL 30 ret) (hn : E.nL = 4) (hX : Scr E b L xs) (hi : i + 6 ≤ L) (hL : L ≤ 3072) (hR : Rel S M) (hk : ∀ S M, Rel S M → V E Q (wdX E.G a S ++ wdM E.G a2 M) 1873 (lls b (a 0) (a2 0) i) []) : ∀ off ∈ (#[231, 274, 347, 410, 444, 467, 500, 533, 556, 599, 632, 681, 714, 737, 750, 763, 796, 829, 862, 895, 918, 951, 994, 1037, 1070, 1103, 1136, 1169, 1192, 1225, 1248, 1281, 1304, 1337, 1360, 1383, 1416, 1439, 1462, 1495, 1508, 1531, 1554, 1577, 1590, 1613, 1646, 1689, 1722, 1745, 1768, 1791, 1804, 1817] : Array Int).toList, ∃ tgt : Nat, ((33 : Nat) : Int) + off = (tgt : Int) ∧ V E Q (wdX E.G a S ++ wdM E.G a2 M) tgt (lls b (a 0) (a2 0) i) [] := by
  exact List.forall_mem_cons.mpr ⟨⟨264, by decide, lc_row C hn hX hi hL hR hk⟩, List.forall_mem_cons.mpr ⟨⟨307, by decide, lc_set C hn hX hi hL hR hk⟩, List.forall_mem_cons.mpr ⟨⟨380, by decide, lc_copy C hn hX hi hL hR hk⟩, List.forall_mem_cons.mpr ⟨⟨443, by decide, lc_element C hn hX hi hL hR hk⟩, List.forall_mem_cons.mpr ⟨⟨477, by decide, lc_holds C hn hX hi hL hR hk⟩, List.forall_mem_cons.mpr ⟨⟨500, by decide, lc_show C hn hX hi hL hR hk⟩, List.forall_mem_cons.mpr ⟨⟨533, by decide, lc_says C hn hX hi hL hR hk⟩, List.forall_mem_cons.mpr ⟨⟨566, by decide, lc_side C hn hX hi hL hR hk⟩, List.forall_mem_cons.mpr ⟨⟨589, by decide, lc_mote C hn hX hi hL hR hk⟩, List.forall_mem_cons.mpr ⟨⟨632, by decide, lc_put C hn hX hi hL hR hk⟩, List.forall_mem_cons.mpr ⟨⟨665, by decide, lc_door C hn hX hi hL hR hk⟩, List.forall_mem_cons.mpr ⟨⟨714, by decide, lc_tell C hn hX hi hL hR hk⟩, List.forall_mem_cons.mpr ⟨⟨747, by decide, lc_feed C hn hX hi hL hR hk⟩, List.forall_mem_cons.mpr ⟨⟨770, by decide, lc_wipe C hn hX hi hL hR hk⟩, List.forall_mem_cons.mpr ⟨⟨783, by decide, lc_hall C hn hX hi hL hR hk⟩, List.forall_mem_cons.mpr ⟨⟨796, by decide, lc_moteOf C hn hX hi hL hR hk⟩, List.forall_mem_cons.mpr ⟨⟨829, by decide, lc_lit C hn hX hi hL hR hk⟩, List.forall_mem_cons.mpr ⟨⟨862, by decide, lc_where C hn hX hi hL hR hk⟩, List.forall_mem_cons.mpr ⟨⟨895, by decide, lc_votes C hn hX hi hL hR hk⟩, List.forall_mem_cons.mpr ⟨⟨928, by decide, lc_when C hn hX hi hL hR hk⟩, List.forall_mem_cons.mpr ⟨⟨951, by decide, lc_setting C hn hX hi hL hR hk⟩, List.forall_mem_cons.mpr ⟨⟨984, by decide, lc_which C hn hX hi hL hR hk⟩, List.forall_mem_cons.mpr ⟨⟨1027, by decide, lc_kinds C hn hX hi hL hR hk⟩, List.forall_mem_cons.mpr ⟨⟨1070, by decide, lc_centre C hn hX hi hL hR hk⟩, List.forall_mem_cons.mpr ⟨⟨1103, by decide, lc_whips C hn hX hi hL hR hk⟩, List.forall_mem_cons.mpr ⟨⟨1136, by decide, lc_answer C hn hX hi hL hR hk⟩, List.forall_mem_cons.mpr ⟨⟨1169, by decide, lc_odds C hn hX hi hL hR hk⟩, List.forall_mem_cons.mpr ⟨⟨1202, by decide, lc_first C hn hX hi hL hR hk⟩, List.forall_mem_cons.mpr ⟨⟨1225, by decide, lc_crowd C hn hX hi hL hR hk⟩, List.forall_mem_cons.mpr ⟨⟨1258, by decide, lc_thick C hn hX hi hL hR hk⟩, List.forall_mem_cons.mpr ⟨⟨1281, by decide, lc_arrives C hn hX hi hL hR hk⟩, List.forall_mem_cons.mpr ⟨⟨1314, by decide, lc_lights C hn hX hi hL hR hk⟩, List.forall_mem_cons.mpr ⟨⟨1337, by decide, lc_meet C hn hX hi hL hR hk⟩, List.forall_mem_cons.mpr ⟨⟨1370, by decide, lc_beamFor C hn hX hi hL hR hk⟩, List.forall_mem_cons.mpr ⟨⟨1393, by decide, lc_warmthFor C hn hX hi hL hR hk⟩, List.forall_mem_cons.mpr ⟨⟨1416, by decide, lc_bestCell C hn hX hi hL hR hk⟩, List.forall_mem_cons.mpr ⟨⟨1449, by decide, lc_many C hn hX hi hL hR hk⟩, List.forall_mem_cons.mpr ⟨⟨1472, by decide, lc_runs C hn hX hi hL hR hk⟩, List.forall_mem_cons.mpr ⟨⟨1495, by decide, lc_together C hn hX hi hL hR hk⟩, List.forall_mem_cons.mpr ⟨⟨1528, by decide, lc_round C hn hX hi hL hR hk⟩, List.forall_mem_cons.mpr ⟨⟨1541, by decide, lc_way C hn hX hi hL hR hk⟩, List.forall_mem_cons.mpr ⟨⟨1564, by decide, lc_walled C hn hX hi hL hR hk⟩, List.forall_mem_cons.mpr ⟨⟨1587, by decide, lc_doorFor C hn hX hi hL hR hk⟩, List.forall_mem_cons.mpr ⟨⟨1610, by decide, lc_stirred C hn hX hi hL hR hk⟩, List.forall_mem_cons.mpr ⟨⟨1623, by decide, lc_ofKind C hn hX hi hL hR hk⟩, List.forall_mem_cons.mpr ⟨⟨1646, by decide, lc_judge C hn hX hi hL hR hk⟩, List.forall_mem_cons.mpr ⟨⟨1679, by decide, lc_behind C hn hX hi hL hR hk⟩, List.forall_mem_cons.mpr ⟨⟨1722, by decide, lc_done C hn hX hi hL hR hk⟩, List.forall_mem_cons.mpr ⟨⟨1755, by decide, lc_steps C hn hX hi hL hR hk⟩, List.forall_mem_cons.mpr ⟨⟨1778, by decide, lc_hours C hn hX hi hL hR hk⟩, List.forall_mem_cons.mpr ⟨⟨1801, by decide, lc_seed C hn hX hi hL hR hk⟩, List.forall_mem_cons.mpr ⟨⟨1824, by decide, lc_image C hn hX hi hL hR hk⟩, List.forall_mem_cons.mpr ⟨⟨1837, by decide, lc_back C hn hX hi hL hR hk⟩, List.forall_mem_cons.mpr ⟨⟨1850, by decide, lc_status C hn hX hi hL hR hk⟩, fun _ h => absurd h List.not_mem_nil⟩⟩⟩⟩⟩⟩⟩⟩⟩⟩⟩⟩⟩⟩⟩⟩⟩⟩⟩⟩⟩⟩⟩⟩⟩⟩⟩⟩⟩⟩⟩⟩⟩⟩⟩⟩⟩⟩⟩⟩⟩⟩⟩⟩⟩⟩⟩⟩⟩⟩⟩⟩⟩⟩
