/-! ===== the law from its start to its end ===== -/
theorem rel_start : Rel x0 m0 := by
  have z0 : wy 0 0 0 0 0 = fun _ => (0 : Int32) := by
    funext i
    unfold wy
    split
    · rfl
    · split
      · rfl
      · split
        · rfl
        · split
          · rfl
          · split
            · rfl
            · rfl
  have w0 : upd (fun _ => (0 : Int32)) 4 (3 : Int32) = wy 0 0 0 0 3 := by
    rw [← z0]
    exact wy_s4
  refine ⟨6, 0, fun _ => 0, fun _ => 0, fun _ => 0, 0, 0, 0, 0, 0, 3, 1, (0, fun _ => 0, m_holding m0, fun _ => 0, fun _ => 0, fun _ => 0, 0, fun _ => 0), (0, 0, 0, 0, fun _ => 0, fun _ => 0, 0, fun _ => 0, fun _ => 0, 0, 0), rfl, ?_, ?_, ?_, ?_, ?_, ?_, ?_⟩
  · unfold m0 eM
    rw [w0]
    rfl
  · exact HI.mk' ⟨⟨by decide, by decide⟩, by decide, by decide, by decide, by decide, by decide⟩ (by decide) (fun i hi => absurd hi (Nat.not_lt_zero i)) (by decide) (fun _ _ => ⟨rfl, rfl, rfl⟩)
  · exact ⟨fun _ _ => ⟨rfl, rfl, rfl⟩, fun _ _ => ⟨rfl, rfl, rfl⟩, fun _ _ _ _ => ⟨rfl, rfl, rfl⟩⟩
  · intro s hs
    refine Or.inl ⟨rfl, ?_⟩
    match s, hs with
    | 0, _ => rfl
    | 1, _ => rfl
    | 2, _ => rfl
    | 3, _ => rfl
    | 4, _ => rfl
    | 5, _ => rfl
    | 6, _ => rfl
    | 7, _ => rfl
  · exact ⟨fun _ _ => rfl, 0, by decide, rfl, rfl⟩
  · exact fun _ _ => rfl
  · exact Or.inl ⟨rfl, rfl⟩
set_option maxRecDepth 20000 in
theorem law_all {E : VE} {Q : State → Prop} {b L : Nat} {xs : Nat → Int32} (C : Ctx (upE E 0 0) code RL 30 ret) (hn : E.nL = 4) (hAO : AOs E.st) (hX : Scr (upE E 600000 7302250) b L xs) (hL : L ≤ 3072) (hcc : E.R.cells = 600000) (hcs : E.R.slots = 7302250) (hend : ∀ (ws : va_W) (ls : List (Nat × Value)), V (upE E 600000 7302250) Q ws 1879 ls []) : V (upE E 0 0) Q [] 0 [(0, .ref b)] [] := by
  refine V_new C (by decide +kernel) no_RL_7 (by rw [hcc]; decide) (by rw [hcs]; decide) (fun q0 => ?_)
  have C := C.to (kc' := 1) (ks' := 9) (by rw [hcc]; decide) (by rw [hcs]; decide)
  refine V_pb C hn [(.dup, 1)] (pc' := 4) (ls' := [(0, .ref b)]) (st' := [.ref q0, .ref q0]) (decB_ok (by decide +kernel)) rfl rfl ?_
  refine V_initA (ws := []) (st := [.ref q0]) C hAO (by decide +kernel) oki_X4 (Or.inl il_RL_9) (ci_X4 q0) (by rw [hcc]; decide) (by rw [hcs]; decide) (by decide) (by decide) (Nat.le_of_ble_eq_true rfl) (fun w1 hw1 => ?_)
  obtain ⟨a, ea, rfl⟩ := hw1
  have C := C.to (kc' := 52) (ks' := 1030) (by rw [hcc]; decide) (by rw [hcs]; decide)
  subst ea
  refine V_pb C hn [(.astore_n 1, 1)] (pc' := 8) (ls' := [(0, .ref b), (1, .ref (a 0))]) (st' := []) (decB_ok (by decide +kernel)) rfl rfl ?_
  refine V_new C (by decide +kernel) no_RL_10 (by rw [hcc]; decide) (by rw [hcs]; decide) (fun q5 => ?_)
  have C := C.to (kc' := 53) (ks' := 1057) (by rw [hcc]; decide) (by rw [hcs]; decide)
  refine V_pb C hn [(.dup, 1)] (pc' := 12) (ls' := [(0, .ref b), (1, .ref (a 0))]) (st' := [.ref q5, .ref q5]) (decB_ok (by decide +kernel)) rfl rfl ?_
  refine V_initA (st := [.ref q5]) C hAO (by decide +kernel) oki_X5 (Or.inl il_RL_12) (ci_X5 q5) (by rw [hcc]; decide) (by rw [hcs]; decide) (by decide) (by decide) (Nat.le_of_ble_eq_true rfl) (fun w1 hw1 => ?_)
  obtain ⟨a2, ea, rfl⟩ := hw1
  have C := C.to (kc' := 67) (ks' := 1817) (by rw [hcc]; decide) (by rw [hcs]; decide)
  subst ea
  refine V_pb C hn [(.astore_n 2, 1), (.iconst 0, 1), (.istore_n 3, 1)] (pc' := 18) (ls' := lls b (a 0) (a2 0) 0) (st' := []) (decB_ok (by decide +kernel)) rfl rfl ?_
  refine V_wide (kc' := 600000) (ks' := 7302250) (by decide) (by decide) ?_
  have C := C.to (kc' := 600000) (ks' := 7302250) (by rw [hcc]; decide) (by rw [hcs]; decide)
  exact law_loop C hn hX hL hend L 0 x0 m0 (by omega) (by omega) rel_start
