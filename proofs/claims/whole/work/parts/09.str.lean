/-! ===== String constants: length and charAt ===== -/
def sLn (i : Nat) : Int32 := Int32.ofNat (sLen.getD i 0)
def sCh (i j : Nat) : Int32 := (sByt.getD i []).getD j 0
theorem sl_RJ0_38 : Cond.fieldLink RJ0 38 "java/lang/String" "COMPACT_STRINGS" "Z" ∈ T0 := T0_2 173 (by decide +kernel) rfl
theorem sl_RJ0_1053 : Cond.fieldLink RJ0 1053 "jdk/internal/util/Preconditions" "SIOOBE_FORMATTER" "Ljava/util/function/BiFunction;" ∈ T0 := T0_2 189 (by decide +kernel) rfl
theorem sl_RJ0_9 : Cond.fieldLink RJ0 9 "java/lang/String" "value" "[B" ∈ T0 := T0_6 207 (by decide +kernel) rfl
theorem sl_RJ0_15 : Cond.fieldLink RJ0 15 "java/lang/String" "coder" "B" ∈ T0 := T0_6 208 (by decide +kernel) rfl
theorem sch_ok : ∀ i, i < 9 → ∀ j, j < sLen.getD i 0 → ((sCh i j &&& 255).toUInt32 % 65536).toInt32 = sCh i j ∧ (sCh i j).toUInt32.toUInt16.toUInt32.toInt32 = sCh i j := by decide +kernel
theorem sln_sh : ∀ i, i < 9 → jshr (sLn i) 0 = sLn i := by decide +kernel
theorem sln_ix : ∀ i, i < 9 → ix (sLn i) = sLen.getD i 0 ∧ ¬ sLn i < 0 := by decide +kernel
section VSt
variable {E : VE} {Q : State → Prop} {ws ws' : va_W} {pc : Nat} {ls ls' : List (Nat × Value)} {st st' : List Value} {cc : ByteArray} {own : String} {kk : Nat} {ret : Option FieldType} {O : Type} {o o1 o2 : Option O} {out : O}
theorem V_callK (C : Ctx E cc own kk ret) {idx : Nat} (hd : decode cc pc = .ok (.invokevirtual idx, 3)) {y : MethodName} {cc' : ByteArray} {n' na k' : Nat} {ret' : Option FieldType} {i : Nat} {As rest st0 : List Value} {rv : Option Value}
    (hok : MOkV y cc' n' ret' na) (hlk : Cond.methodLink own idx y ∈ T0) (hM : Con E.l E.G k' y cc' n' ret' (.ref (E.G.adK i) :: As) [] rv []) (hi : i < 9) (hst : st0 = As.reverse ++ .ref (E.G.adK i) :: rest) (hcy : "java/lang/String" = y.cls) (hn : As.length = na) (hk : k' + 1 ≤ kk) (hn' : n' ≤ 40) (hroom : (rest.map fun v => v.category).sum ≤ 8)
    (kk : V E Q ws (pc + 3) ls (rv.toList ++ rest)) : V E Q ws pc ls st0 := by
  obtain ⟨p, l, e, R, s, m, args, below, meth, c, G, A, nL, kc, ks⟩ := E
  obtain ⟨⟨hx, hb, hml, hown, hts⟩, hr, hlocks, hK, hA, hR, hcs, hSO⟩ := C.x
  obtain ⟨⟨hcode, hini, hd1, hd2, hd3⟩, hinst, hsel⟩ := hok
  intro H locs la hP hD hS hl
  have hPc : va_P G.1 vwCl [] H := fun j q hj => by cases hj
  have hDc : va_D A [] := hD.sub [] rfl rfl
  have hF := va_free (wc := []) hD hS hA [] rfl
  have hGI : GoodIn T0 (wsm y cc' n' ret') := fun w h => (List.mem_cons.mp h).elim (fun h => h ▸ T0_good _ hcode) (fun h => T0_good _ h)
  have cw : CallW R s args own y.cls idx y cc' n' ret' (wsm y cc' n' ret') (rmk k') 0 0 na := ⟨callB_of na hts hGI rfl rfl rfl (hts _ hini) (hts _ hlk) ⟨hd1, hd2, hd3⟩ ⟨by show k' + 1 ≤ R.frames; omega, by show 8 + (n' + 11) + 60 * k' ≤ R.locals; omega⟩, hts _ hinst, hts _ hsel⟩
  have hrv : ∃ cell : Cell, H[G.adK i]? = some cell ∧ cell.vm.isStatics = false ∧ s.vm.findClass y.cls = some cell.cls := by
    rw [← hcy]
    exact vk_recv hSO.1 hi hS
  refine V_run (is := []) hP hD hS hl hA (va_runV (As := As) (rest := rest) ⟨hx, hb, hml, hown, hts⟩ (hM H.size) cw ⟨blind_Con, hrv, fun U hU hW => ⟨rfl, by rw [hU], by rw [hU]; exact hPc, va_K.moved hW.alike hK, hDc.weaken (fun _ _ _ _ => trivial), SOk.go hSO hW (by rw [hU]; exact hS.2.1) hF⟩⟩ rfl hn hl.1 hst (lv_room hroom) hd hcs) rfl rfl rfl kk
theorem V_gsC (C : Ctx E cc RJ0 kk ret) (hd : decode cc pc = .ok (.getstatic 38, 3)) (k : V E Q ws (pc + 3) ls (.int 1 :: st)) : V E Q ws pc ls st := by
  obtain ⟨p, l, e, R, s, m, args, below, meth, c, G, A, nL, kc, ks⟩ := E
  obtain ⟨⟨hx, hb, hml, hown, hts⟩, hr, hlocks, hK, hA, hR, hcs, hSO⟩ := C.x
  intro H locs la hP hD hS hl
  exact va_gets hx hb hSO.2.2.1 hS hown (hts _ sl_RJ0_38) (fun _ h => h) hd (k H locs la hP hD hS hl)
theorem V_gsF (C : Ctx E cc RJ0 kk ret) (hd : decode cc pc = .ok (.getstatic 1053, 3)) (k : ∀ v : Value, (v = .null ∨ ∃ t, v = .ref t) → V E Q ws (pc + 3) ls (v :: st)) : V E Q ws pc ls st := by
  obtain ⟨p, l, e, R, s, m, args, below, meth, c, G, A, nL, kc, ks⟩ := E
  obtain ⟨⟨hx, hb, hml, hown, hts⟩, hr, hlocks, hK, hA, hR, hcs, hSO⟩ := C.x
  intro H locs la hP hD hS hl
  rcases hSO.2.2.2 with hz | ⟨t, hz⟩
  · exact va_gets hx hb hz hS hown (hts _ sl_RJ0_1053) (fun _ h => h) hd (k _ (Or.inl rfl) H locs la hP hD hS hl)
  · exact va_gets hx hb hz hS hown (hts _ sl_RJ0_1053) (fun _ h => h) hd (k _ (Or.inr ⟨t, rfl⟩) H locs la hP hD hS hl)
theorem V_gfV (C : Ctx E cc RJ0 kk ret) (hd : decode cc pc = .ok (.getfield 9, 3)) {i : Nat} (hi : i < 9) (k : V E Q ws (pc + 3) ls (.ref (E.G.adV i) :: st)) : V E Q ws pc ls (.ref (E.G.adK i) :: st) := by
  obtain ⟨p, l, e, R, s, m, args, below, meth, c, G, A, nL, kc, ks⟩ := E
  obtain ⟨⟨hx, hb, hml, hown, hts⟩, hr, hlocks, hK, hA, hR, hcs, hSO⟩ := C.x
  intro H locs la hP hD hS hl
  exact vk_getf hx hb (hSO.1.1 i hi).2.2.1 hS hown (hts _ sl_RJ0_9) (fun _ h => h) hd (k H locs la hP hD hS hl)
theorem V_gfC (C : Ctx E cc RJ0 kk ret) (hd : decode cc pc = .ok (.getfield 15, 3)) {i : Nat} (hi : i < 9) (k : V E Q ws (pc + 3) ls (.int 0 :: st)) : V E Q ws pc ls (.ref (E.G.adK i) :: st) := by
  obtain ⟨p, l, e, R, s, m, args, below, meth, c, G, A, nL, kc, ks⟩ := E
  obtain ⟨⟨hx, hb, hml, hown, hts⟩, hr, hlocks, hK, hA, hR, hcs, hSO⟩ := C.x
  intro H locs la hP hD hS hl
  exact vk_getf hx hb (hSO.1.1 i hi).2.1 hS hown (hts _ sl_RJ0_15) (fun _ h => h) hd (k H locs la hP hD hS hl)
theorem V_tln (C : Ctx E cc own kk ret) (hd : decode cc pc = .ok (.arraylength, 1)) {i : Nat} (hi : i < 9) (k : V E Q ws (pc + 1) ls (.int (sLn i) :: st)) : V E Q ws pc ls (.ref (E.G.adV i) :: st) := by
  obtain ⟨p, l, e, R, s, m, args, below, meth, c, G, A, nL, kc, ks⟩ := E
  obtain ⟨⟨hx, hb, hml, hown, hts⟩, hr, hlocks, hK, hA, hR, hcs, hSO⟩ := C.x
  intro H locs la hP hD hS hl
  exact va_tlen hx hb (hSO.1.1 i hi).2.2.2 hS rfl hd (k H locs la hP hD hS hl)
theorem V_tby (C : Ctx E cc own kk ret) (hd : decode cc pc = .ok (.baload, 1)) {i : Nat} (hi : i < 9) {j : Int32} (hj : inb j (sLen.getD i 0) = true) (k : V E Q ws (pc + 1) ls (.int (sCh i (ix j)) :: st)) : V E Q ws pc ls (.int j :: .ref (E.G.adV i) :: st) := by
  obtain ⟨p, l, e, R, s, m, args, below, meth, c, G, A, nL, kc, ks⟩ := E
  obtain ⟨⟨hx, hb, hml, hown, hts⟩, hr, hlocks, hK, hA, hR, hcs, hSO⟩ := C.x
  intro H locs la hP hD hS hl
  exact va_tb hx hb (hSO.1.1 i hi).2.2.2 hS (inb_vp hj) rfl hd (k H locs la hP hD hS hl)
theorem V_i2c (C : Ctx E cc own kk ret) (hd : decode cc pc = .ok (.i2c, 1)) {x v : Int32} (hv : (x.toUInt32 % 65536).toInt32 = v) (k : V E Q ws (pc + 1) ls (.int v :: st)) : V E Q ws pc ls (.int x :: st) := by
  obtain ⟨p, l, e, R, s, m, args, below, meth, c, G, A, nL, kc, ks⟩ := E
  obtain ⟨⟨hx, hb, hml, hown, hts⟩, -⟩ := C.x
  intro H locs la hP hD hS hl
  exact lv_i2c hx hb hd hv (k H locs la hP hD hS hl)
end VSt
theorem c9_coder {l : Launch} {G : GG} {i : Nat} (hi : i < 9) : Con l G 0 yJ0_coder_7d493 cJ0_coder_7d493 1 (some .byte) [.ref (G.adK i)] [] (some (.int 0)) [] := by
  refine Con_of (by decide +kernel) (Nat.le_of_ble_eq_true rfl) (fun E hl hG hn C => ?_)
  subst hl
  subst hG
  have C : Ctx E cJ0_coder_7d493 RJ0 0 (some .byte) := C
  show V E _ _ 0 [(0, .ref (E.G.adK i))] []
  refine V_gsC C (by decide +kernel) ?_
  refine V_if_eq C (off := 10) (tgt := 13) (by decide +kernel) (by decide) (o1 := none) (o2 := some ()) rfl (fun _ h => by cases h) (fun _ _ => ?_)
  refine V_pb C hn [(.aload_n 0, 1)] (pc' := 7) (ls' := [(0, .ref (E.G.adK i))]) (st' := [.ref (E.G.adK i)]) (decB_ok (by decide +kernel)) rfl rfl ?_
  refine V_gfC C (by decide +kernel) hi ?_
  refine V_goto C (off := 4) (tgt := 14) (by decide +kernel) (by decide) ?_
  exact V_iret C (by decide +kernel) rfl
theorem c9_isLatin1 {l : Launch} {G : GG} {i : Nat} (hi : i < 9) : Con l G 0 yJ0_isLatin1_aae02 cJ0_isLatin1_aae02 1 (some .boolean) [.ref (G.adK i)] [] (some (.int 1)) [] := by
  refine Con_of (by decide +kernel) (Nat.le_of_ble_eq_true rfl) (fun E hl hG hn C => ?_)
  subst hl
  subst hG
  have C : Ctx E cJ0_isLatin1_aae02 RJ0 0 (some .boolean) := C
  show V E _ _ 0 [(0, .ref (E.G.adK i))] []
  refine V_gsC C (by decide +kernel) ?_
  refine V_if_eq C (off := 14) (tgt := 17) (by decide +kernel) (by decide) (o1 := none) (o2 := some ()) rfl (fun _ h => by cases h) (fun _ _ => ?_)
  refine V_pb C hn [(.aload_n 0, 1)] (pc' := 7) (ls' := [(0, .ref (E.G.adK i))]) (st' := [.ref (E.G.adK i)]) (decB_ok (by decide +kernel)) rfl rfl ?_
  refine V_gfC C (by decide +kernel) hi ?_
  refine V_if_ne C (off := 7) (tgt := 17) (by decide +kernel) (by decide) (o1 := some ()) (o2 := none) rfl (fun _ _ => ?_) (fun _ h => by cases h)
  refine V_pb C hn [(.iconst 1, 1)] (pc' := 14) (ls' := [(0, .ref (E.G.adK i))]) (st' := [.int (1 : Int32)]) (decB_ok (by decide +kernel)) rfl rfl ?_
  refine V_goto C (off := 4) (tgt := 18) (by decide +kernel) (by decide) ?_
  exact V_iret C (by decide +kernel) rfl
theorem c9_length {l : Launch} {G : GG} {i : Nat} (hi : i < 9) : Con l G 1 yJ0_length_8abf5 cJ0_length_8abf5 1 (some .int) [.ref (G.adK i)] [] (some (.int (sLn i))) [] := by
  refine Con_of (by decide +kernel) (Nat.le_of_ble_eq_true rfl) (fun E hl hG hn C => ?_)
  subst hl
  subst hG
  have C : Ctx E cJ0_length_8abf5 RJ0 1 (some .int) := C
  show V E _ _ 0 [(0, .ref (E.G.adK i))] []
  refine V_pb C hn [(.aload_n 0, 1)] (pc' := 1) (ls' := [(0, .ref (E.G.adK i))]) (st' := [.ref (E.G.adK i)]) (decB_ok (by decide +kernel)) rfl rfl ?_
  refine V_gfV C (by decide +kernel) hi ?_
  refine V_tln C (by decide +kernel) hi ?_
  refine V_pb C hn [(.aload_n 0, 1)] (pc' := 6) (ls' := [(0, .ref (E.G.adK i))]) (st' := [.ref (E.G.adK i), .int (sLn i)]) (decB_ok (by decide +kernel)) rfl rfl ?_
  refine V_callK C (by decide +kernel) ok_yJ0_coder_7d493 mk_RJ0_335 (c9_coder hi) hi (As := []) (rest := [.int (sLn i)]) rfl rfl rfl (Nat.le_of_ble_eq_true rfl) (Nat.le_of_ble_eq_true rfl) (Nat.le_of_ble_eq_true rfl) ?_
  refine V_pb C hn [(.ishr, 1)] (pc' := 10) (ls' := [(0, .ref (E.G.adK i))]) (st' := [.int (jshr (sLn i) 0)]) (decB_ok (by decide +kernel)) rfl rfl ?_
  rw [sln_sh i hi]
  exact V_iret C (by decide +kernel) rfl
theorem c9_check3 {l : Launch} {G : GG} {j n : Int32} {v : Value} (h0 : ¬ j < 0) (h1 : j < n) (hv : v = .null ∨ ∃ t, v = .ref t) : Con l G 0 yJ3_checkIndex_8e157 cJ3_checkIndex_8e157 3 (some .int) [.int j, .int n, v] [] (some (.int j)) [] := by
  have hlen : (lg_sl [.int j, .int n, v]).length ≤ 3 := by
    rcases hv with rfl | ⟨t, rfl⟩ <;> exact Nat.le_of_ble_eq_true rfl
  refine Con_of (by decide +kernel) hlen (fun E hl hG hn C => ?_)
  have C : Ctx E cJ3_checkIndex_8e157 RJ3 0 (some .int) := C
  have hla : lv_args 0 [.int j, .int n, v] = [(0, .int j), (1, .int n), (2, v)] := by
    rcases hv with rfl | ⟨t, rfl⟩ <;> rfl
  rw [hla]
  refine V_sub (ls' := [(0, .int j), (1, .int n)]) rfl ?_
  refine V_pb C hn [(.iload_n 0, 1)] (pc' := 1) (ls' := [(0, .int j), (1, .int n)]) (st' := [.int j]) (decB_ok (by decide +kernel)) rfl rfl ?_
  refine V_if_lt C (off := 8) (tgt := 9) (by decide +kernel) (by decide) (o1 := none) (o2 := some ()) (if_neg h0) (fun _ h => by cases h) (fun _ _ => ?_)
  refine V_pb C hn [(.iload_n 0, 1), (.iload_n 1, 1)] (pc' := 6) (ls' := [(0, .int j), (1, .int n)]) (st' := [.int n, .int j]) (decB_ok (by decide +kernel)) rfl rfl ?_
  refine V_ic_lt C (off := 10) (tgt := 16) (by decide +kernel) (by decide) (o1 := some ()) (o2 := none) (if_pos h1) (fun _ _ => ?_) (fun _ h => by cases h)
  refine V_pb C hn [(.iload_n 0, 1)] (pc' := 17) (ls' := [(0, .int j), (1, .int n)]) (st' := [.int j]) (decB_ok (by decide +kernel)) rfl rfl ?_
  exact V_iret C (by decide +kernel) rfl
theorem c9_check0 {l : Launch} {G : GG} {j n : Int32} (h0 : ¬ j < 0) (h1 : j < n) : Con l G 1 yJ0_checkIndex_df160 cJ0_checkIndex_df160 2 none [.int j, .int n] [] none [] := by
  refine Con_of (by decide +kernel) (Nat.le_of_ble_eq_true rfl) (fun E hl hG hn C => ?_)
  subst hl
  subst hG
  have C : Ctx E cJ0_checkIndex_df160 RJ0 1 none := C
  show V E _ _ 0 [(0, .int j), (1, .int n)] []
  refine V_pb C hn [(.iload_n 0, 1), (.iload_n 1, 1)] (pc' := 2) (ls' := [(0, .int j), (1, .int n)]) (st' := [.int n, .int j]) (decB_ok (by decide +kernel)) rfl rfl ?_
  refine V_gsF C (by decide +kernel) (fun v hv => ?_)
  refine V_callS C (by decide +kernel) ok_yJ3_checkIndex_8e157 mk_RJ0_1059 (c9_check3 h0 h1 hv) [] (rest := []) rfl rfl rfl rfl rfl rfl (Nat.le_of_ble_eq_true rfl) (Nat.le_of_ble_eq_true rfl) (Nat.le_of_ble_eq_true rfl) ?_
  refine V_pb C hn [(.pop, 1)] (pc' := 9) (ls' := [(0, .int j), (1, .int n)]) (st' := []) (decB_ok (by decide +kernel)) rfl rfl ?_
  exact V_vret C (by decide +kernel)
theorem c9_lat {l : Launch} {G : GG} {i : Nat} {j : Int32} (hi : i < 9) (hj : inb j (sLen.getD i 0) = true) : Con l G 2 yJ1_charAt_3b067 cJ1_charAt_3b067 2 (some .char) [.ref (G.adV i), .int j] [] (some (.int (sCh i (ix j)))) [] := by
  have hv := inb_vp hj
  have h0 : ¬ j < 0 := fun q => hv (Or.inl q)
  have hx : ix j < sLen.getD i 0 := Nat.not_le.mp fun q => hv (Or.inr q)
  obtain ⟨e1, e2⟩ := sch_ok i hi (ix j) hx
  obtain ⟨e3, e4⟩ := sln_ix i hi
  have h1 : j < sLn i := by
    rw [← e3] at hx
    unfold ix at hx
    have a1 : (0 : Int) ≤ j.toInt := by
      have := Int32.not_lt.mp h0
      simpa using Int32.le_iff_toInt_le.mp this
    have a2 : (0 : Int) ≤ (sLn i).toInt := by
      have := Int32.not_lt.mp e4
      simpa using Int32.le_iff_toInt_le.mp this
    apply Int32.lt_iff_toInt_lt.mpr
    have b1 : j.toNatClampNeg = j.toInt.toNat := rfl
    have b2 : (sLn i).toNatClampNeg = (sLn i).toInt.toNat := rfl
    omega
  refine Con_of (by decide +kernel) (Nat.le_of_ble_eq_true rfl) (fun E hl hG hn C => ?_)
  subst hl
  subst hG
  have C : Ctx E cJ1_charAt_3b067 RJ1 2 (some .char) := C
  show V E _ _ 0 [(0, .ref (E.G.adV i)), (1, .int j)] []
  refine V_pb C hn [(.iload_n 1, 1), (.aload_n 0, 1)] (pc' := 2) (ls' := [(0, .ref (E.G.adV i)), (1, .int j)]) (st' := [.ref (E.G.adV i), .int j]) (decB_ok (by decide +kernel)) rfl rfl ?_
  refine V_tln C (by decide +kernel) hi ?_
  refine V_callS C (by decide +kernel) ok_yJ0_checkIndex_df160 mk_RJ1_9 (c9_check0 h0 h1) [] (rest := []) rfl rfl rfl rfl rfl rfl (Nat.le_of_ble_eq_true rfl) (Nat.le_of_ble_eq_true rfl) (Nat.le_of_ble_eq_true rfl) ?_
  refine V_pb C hn [(.aload_n 0, 1), (.iload_n 1, 1)] (pc' := 8) (ls' := [(0, .ref (E.G.adV i)), (1, .int j)]) (st' := [.int j, .ref (E.G.adV i)]) (decB_ok (by decide +kernel)) rfl rfl ?_
  refine V_tby C (by decide +kernel) hi hj ?_
  refine V_pb C hn [(.sipush 255, 3), (.iand, 1)] (pc' := 13) (ls' := [(0, .ref (E.G.adV i)), (1, .int j)]) (st' := [.int (sCh i (ix j) &&& (255 : Int32))]) (decB_ok (by decide +kernel)) rfl rfl ?_
  refine V_i2c C (by decide +kernel) e1 ?_
  exact V_iret C (by decide +kernel) (by show Value.int _ = _; rw [e2])
theorem c9_charAt {l : Launch} {G : GG} {i : Nat} {j : Int32} (hi : i < 9) (hj : inb j (sLen.getD i 0) = true) : Con l G 3 yJ0_charAt_5068e cJ0_charAt_5068e 2 (some .char) [.ref (G.adK i), .int j] [] (some (.int (sCh i (ix j)))) [] := by
  have hv := inb_vp hj
  have hx : ix j < sLen.getD i 0 := Nat.not_le.mp fun q => hv (Or.inr q)
  obtain ⟨e1, e2⟩ := sch_ok i hi (ix j) hx
  refine Con_of (by decide +kernel) (Nat.le_of_ble_eq_true rfl) (fun E hl hG hn C => ?_)
  subst hl
  subst hG
  have C : Ctx E cJ0_charAt_5068e RJ0 3 (some .char) := C
  show V E _ _ 0 [(0, .ref (E.G.adK i)), (1, .int j)] []
  refine V_pb C hn [(.aload_n 0, 1)] (pc' := 1) (ls' := [(0, .ref (E.G.adK i)), (1, .int j)]) (st' := [.ref (E.G.adK i)]) (decB_ok (by decide +kernel)) rfl rfl ?_
  refine V_callK C (by decide +kernel) ok_yJ0_isLatin1_aae02 mk_RJ0_492 (c9_isLatin1 hi) hi (As := []) (rest := []) rfl rfl rfl (Nat.le_of_ble_eq_true rfl) (Nat.le_of_ble_eq_true rfl) (Nat.le_of_ble_eq_true rfl) ?_
  refine V_if_eq C (off := 12) (tgt := 16) (by decide +kernel) (by decide) (o1 := none) (o2 := some ()) rfl (fun _ h => by cases h) (fun _ _ => ?_)
  refine V_pb C hn [(.aload_n 0, 1)] (pc' := 8) (ls' := [(0, .ref (E.G.adK i)), (1, .int j)]) (st' := [.ref (E.G.adK i)]) (decB_ok (by decide +kernel)) rfl rfl ?_
  refine V_gfV C (by decide +kernel) hi ?_
  refine V_pb C hn [(.iload_n 1, 1)] (pc' := 12) (ls' := [(0, .ref (E.G.adK i)), (1, .int j)]) (st' := [.int j, .ref (E.G.adV i)]) (decB_ok (by decide +kernel)) rfl rfl ?_
  refine V_callS C (by decide +kernel) ok_yJ1_charAt_3b067 mk_RJ0_495 (c9_lat hi hj) [] (rest := []) rfl rfl rfl rfl rfl rfl (Nat.le_of_ble_eq_true rfl) (Nat.le_of_ble_eq_true rfl) (Nat.le_of_ble_eq_true rfl) ?_
  exact V_iret C (by decide +kernel) (by show Value.int _ = _; rw [e2])
section VSu
variable {E : VE} {Q : State → Prop} {ws ws' : va_W} {pc : Nat} {ls ls' : List (Nat × Value)} {st st' : List Value} {cc : ByteArray} {own : String} {kk : Nat} {ret : Option FieldType} {O : Type} {o o1 o2 : Option O} {out : O}
theorem V_slen (C : Ctx E cc own kk ret) {idx : Nat} {rest st0 : List Value} {i : Nat} (hd : decode cc pc = .ok (.invokevirtual idx, 3)) (hlk : Cond.methodLink own idx yJ0_length_8abf5 ∈ T0) (hi : i < 9) (hst : st0 = .ref (E.G.adK i) :: rest) (hk : 2 ≤ kk) (hroom : (rest.map fun v => v.category).sum ≤ 8) (k : V E Q ws (pc + 3) ls (.int (sLn i) :: rest)) : V E Q ws pc ls st0 :=
  V_callK C hd ok_yJ0_length_8abf5 hlk (c9_length hi) hi (As := []) (rest := rest) hst rfl rfl hk (Nat.le_of_ble_eq_true rfl) hroom k
theorem V_sch (C : Ctx E cc own kk ret) {idx : Nat} {rest st0 : List Value} {i : Nat} {j : Int32} (hd : decode cc pc = .ok (.invokevirtual idx, 3)) (hlk : Cond.methodLink own idx yJ0_charAt_5068e ∈ T0) (hi : i < 9) (h : gd (inb j (sLen.getD i 0)) o = some out) (hst : st0 = .int j :: .ref (E.G.adK i) :: rest) (hk : 4 ≤ kk) (hroom : (rest.map fun v => v.category).sum ≤ 8) (k : o = some out → V E Q ws (pc + 3) ls (.int (sCh i (ix j)) :: rest)) : V E Q ws pc ls st0 :=
  V_callK C hd ok_yJ0_charAt_5068e hlk (c9_charAt hi (gd_some h).1) hi (As := [.int j]) (rest := rest) hst rfl rfl hk (Nat.le_of_ble_eq_true rfl) hroom (k (gd_some h).2)
end VSu
