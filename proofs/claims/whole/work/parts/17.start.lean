/-! THE CLAIM OUT OF ONE WALK OF THE LAW'S BODY. Your part is whole_start (and what it stands on); all else here is the same for every law, but numbers. -/
def R_law : String := "CurveMeetingsLaw"
def lw_P (b : Addr) (xs : List Int32) (args : Array Value) (s : State) : Prop := args = #[.ref b] ∧ s.IntsAt b xs ∧ xs.length ≤ 2560 ∧ (Jvm.Cond.and given_1 narrow_1).before args s = true
def lw_Q (_ : Array Value) (s : State) (o : Outcome) (t : State) : Prop := o = .returned (some (.int 1)) ∧ Framed s o t [] 600000 7302250
def lw_Z (below : List Frame) (a : Array Value) (s : State) : State → Prop := fun t => ∃ o, t.status = .running ∧ Ended t below o ∧ lw_Q a s o t
/-- the law's own end, with 1 on the stack, nothing written that was there before, its room as the claim has it -/
theorem lw_ret {p : Program} {l : Launch} {e : Env} {s : State} {m : MethodId} {below : List Frame} {meth : Method} {c : Code} {b : Nat} (hx : p.tables.exec = Jvm.exec) (hb : c.code = code) (hr : meth.sig.returnType = ret) (hlocks : meth.locks = false) {pc : Nat} {H : Heap} {ls : Array Slot} (hdg : decode code pc = .ok (.ireturn, 1)) : W p l e room_1 s m #[Value.ref b] below meth c H [] 600000 7302250 (lw_Z below #[Value.ref b] s) (F0 m pc ls [.int 1]) := by
  intro T hT X
  obtain ⟨fs, hret, hrun, hended, hW, hframe⟩ := X.leave (v := some (.int 1)) (hlocks := hlocks) (fun h => by rw [hr] at h; cases h)
  have hmeth' : T.vm.method? m = some meth := X.method'
  refine ⟨T.setFrames fs, ?_, .returned (some (.int 1)), hrun, hended, rfl, ⟨_, rfl⟩, hW, hframe⟩
  jvm_step X.here [X.here.top, hx, hb, hdg, hmeth', hr, ret, narrow_b1]
  (try refine ⟨rfl, ?_⟩); (try refine ⟨rfl, ?_⟩)
  first | (intro acts; rw [hret _ acts rfl rfl rfl]) | rw [hret _ _ rfl rfl rfl]
  exact Steps.refl _
/-- what holds at the law's entry: the machine, the code, the tables' words (any of lw_tbl by 'hts w (by decide +kernel)'), the script of L ints xs at the cell b, what the Statement gives of the start (any of its parts by flat_of_before) -/
def lw_At (p : Program) (s : State) (m : MethodId) (meth : Method) (c : Code) (b L : Nat) (xs : Nat → Int32) : Prop :=
  p.tables.exec = Jvm.exec ∧ c.code = code ∧ meth.sig.returnType = ret ∧ c.maxLocals = 4 ∧ s.vm.findClass R_law = some m.cls ∧ (∀ w ∈ lw_tbl, w.before #[Value.ref b] s = true) ∧ va_X b L xs s s.heap ∧ b < s.heap.size ∧ meth.locks = false ∧ (Jvm.Cond.and given_1 narrow_1).before #[Value.ref b] s = true
theorem zic_L_7 : Cond.classLink RL 7 RX7 ∈ zgw := zgw_of 87 (by decide +kernel) (by decide +kernel)
theorem zic_L_10 : Cond.classLink RL 10 RX8 ∈ zgw := zgw_of 647 (by decide +kernel) (by decide +kernel)
theorem zim_L_9 : Cond.methodLink RL 9 yX7_init ∈ zgw := zgw_of 89 (by decide +kernel) (by decide +kernel)
theorem zim_L_12 : Cond.methodLink RL 12 yX8_init ∈ zgw := zgw_of 649 (by decide +kernel) (by decide +kernel)
theorem zw_over : Cond.arrayOver (.object "CurveMeetings$Arc") ∈ lw_tbl := List.mem_of_getElem? (i := 125) (by decide +kernel)
theorem zw_lays : Cond.laysStatic "CurveMeetings" "AREA_WEIGHTS" "[I" ∈ lw_tbl := List.mem_of_getElem? (i := 532) (by decide +kernel)
theorem zw_ini : Cond.initialized "CurveMeetings" ∈ lw_tbl := List.mem_of_getElem? (i := 76) (by decide +kernel)
def zM0 : zMem := (fun c => if c = 1 then (fun k => if k = 4 then -1 else 0) else if c = 38 then (fun k => if k = 10 then -1 else if k = 11 then -1 else 0) else fun _ => 0, fun _ _ => 0)
theorem va_P.conv {D : va_G} {cl : List vw_C} {p : Nat} {ws : va_W} {a : Nat} {e0 e : va_E} {H : Heap} (h : va_P D cl ws H) (hp : ws[p]? = some (a, e0)) (he : va_at D cl (a, e) H) : va_P D cl (ws.set p (a, e)) H := by
  have hl := (List.getElem?_eq_some_iff.mp hp).1
  intro k q hk
  by_cases hkp : k = p
  · subst hkp
    rw [List.getElem?_set_self hl] at hk
    cases hk
    exact he
  · rw [List.getElem?_set_ne (Ne.symm hkp)] at hk
    exact h k q hk
theorem zarrV_congr {cA : ClassId} {n : Nat} {f g : Nat → Option Nat} (h : ∀ j, j < n → f j = g j) : vp_cell cA (n, .inr (.inr (.inr (.inr f)))) = vp_cell cA (n, .inr (.inr (.inr (.inr g)))) := by
  rw [vp_cell_q, vp_cell_q]
  unfold arrV
  congr 1
  apply Array.ext
  · simp
  · intro i h1 h2
    simp at h1
    simp [h i h1]
theorem zi_conv {G : zG} {X : zX} {ws : va_W} {ce sl : Nat} {lv : List (Nat × Value)} {st : List Value} {pc p a n : Nat} {cA : ClassId} {f g : Nat → Option Nat} (hp : ws[p]? = some (a, .inl (cA, n, .inr (.inr (.inr (.inr f)))))) (h : ∀ j, j < n → f j = g j) (k : zU G X (ws.set p (a, .inl (cA, n, .inr (.inr (.inr (.inr g)))))) ce sl lv st pc) : zU G X ws ce sl lv st pc := by
  obtain ⟨pp, l, e, R, s, m, args, below, meth, c, cells0, slots0, Q, nL1⟩ := X
  intro H locs ls hP hD hS hl
  refine k H locs ls (hP.conv hp ?_) (hD.set hp) hS hl
  show H[a]? = some (vp_cell cA (n, .inr (.inr (.inr (.inr g)))))
  rw [← zarrV_congr h]
  exact hP p _ hp
theorem zAd_of {G : zG} {M : zMem} (hD : va_D (zA G) (zWd G M)) : zAd G := by
  refine ⟨fun i j hi hj hij => ?_, fun i hi => ?_⟩
  · exact hD.1 i j _ _ (zWd_at G M hi) (zWd_at G M hj) hij
  · exact hD.2 i _ (zWd_at G M hi)
/-- from worlds that grow to the fixed one -/
theorem zU_toV {G G' : zG} {X X' : zX} {ws : va_W} {M : zMem} {ce sl : Nat} {lv : List (Nat × Value)} {st : List Value} {pc : Nat} (hG : G'.1 = G.1 ∧ G'.2.1 = G.2.1) (hw : ws = zWd G' M) (hX : X' = (X.1, X.2.1, X.2.2.1, X.2.2.2.1, X.2.2.2.2.1, X.2.2.2.2.2.1, X.2.2.2.2.2.2.1, X.2.2.2.2.2.2.2.1, X.2.2.2.2.2.2.2.2.1, X.2.2.2.2.2.2.2.2.2.1, ce, sl, X.2.2.2.2.2.2.2.2.2.2.2.2.1, X.2.2.2.2.2.2.2.2.2.2.2.2.2)) (k : zAd G' → zV G' X' M lv st pc) : zU G X ws ce sl lv st pc := by
  obtain ⟨p, l, e, R, s, m, args, below, meth, c, cells0, slots0, Q, nL1⟩ := X
  subst hX
  intro H locs ls hP hD hS hl
  subst hw
  have hA : zA G = zA G' := by funext q; show (G.1 ≤ q) = (G'.1 ≤ q); rw [hG.1]
  rw [← hG.2] at hP
  rw [hA] at hD hS
  exact k (zAd_of hD) H locs ls hP hS hl
set_option maxHeartbeats 8000000 in
set_option maxRecDepth 100000 in
theorem whole_open {p : Program} {e : Env} {s : State} {m : MethodId} {below : List Frame} {meth : Method} {c : Code} (l : Launch) {b L : Nat} {xs : Nat → Int32} (C0 : lw_At p s m meth c b L xs) (hp : ∃ N, f_L_law_l18 N L xs (fun r _ => r = 1) N 0 zM0) : W p l e room_1 s m #[Value.ref b] below meth c s.heap [] 0 0 (lw_Z below #[Value.ref b] s) (entryFrame m ([Value.ref b] : List Value).toArray 4) := by
  obtain ⟨hx, hb, hr, hml, hown, hts, hX, hbl, hlocks, hgv⟩ := C0
  obtain ⟨N, hp⟩ := hp
  have htg : ∀ w ∈ zgw, w.before #[Value.ref b] s = true := fun w hw => hts w (List.mem_filter.mp hw).1
  have hnw : ∀ w ∈ znw, va_Nw w s := fun w hw => znw_tab hw (hts w (List.mem_filter.mp hw).1)
  obtain ⟨c0, i0, hKn0⟩ := u_known (C := RX0) (T := TX0) (N := 5) (n := 5) htg zin0 (htg _ zwn_0.1)
  obtain ⟨c1, i1, hKn1⟩ := u_known (C := RX1) (T := TX1) (N := 3) (n := 3) htg zin1 (htg _ zwn_1.1)
  obtain ⟨c2, i2, hKn2⟩ := u_known (C := RX2) (T := TX2) (N := 2) (n := 2) htg zin2 (htg _ zwn_2.1)
  obtain ⟨c3, i3, hKn3⟩ := u_known (C := RX3) (T := TX3) (N := 13) (n := 13) htg zin3 (htg _ zwn_3.1)
  obtain ⟨c4, i4, hKn4⟩ := u_known (C := RX5) (T := TX5) (N := 6) (n := 6) htg zin4 (htg _ zwn_4.1)
  obtain ⟨c5, i5, hKn5⟩ := u_known (C := RX6) (T := TX6) (N := 3) (n := 3) htg zin5 (htg _ zwn_5.1)
  obtain ⟨c6, i6, hKn6⟩ := u_known (C := RX7) (T := TX7) (N := 7) (n := 7) htg zin6 (htg _ zwn_6.1)
  obtain ⟨c7, i7, hKn7⟩ := u_known (C := RX8) (T := TX8) (N := 28) (n := 28) htg zin7 (htg _ zwn_7.1)
  obtain ⟨dC, dI, hKc⟩ : ∃ (dC : Nat → ClassId) (dI : Nat → Nat → Nat), ∀ (k : Nat) (q : vw_C), vwCl[k]? = some q → u_Kn s q.1 q.2.1 q.2.2 (dC k) (dI k) := by
    refine ⟨fun k => [c0, c1, c2, c3, c4, c5, c6, c7].getD k c0, fun k => [i0, i1, i2, i3, i4, i5, i6, i7].getD k i0, ?_⟩
    intro k q hq
    match k, hq with
    | 0, hq => cases hq; exact hKn0
    | 1, hq => cases hq; exact hKn1
    | 2, hq => cases hq; exact hKn2
    | 3, hq => cases hq; exact hKn3
    | 4, hq => cases hq; exact hKn4
    | 5, hq => cases hq; exact hKn5
    | 6, hq => cases hq; exact hKn6
    | 7, hq => cases hq; exact hKn7
    | k + 8, hq => simp [vwCl] at hq
  obtain ⟨tI, kI, mI, fI, gI, jI⟩ := Cond.arrayClass_spec (htg _ zac_int)
  have hAI : ArrOfT s tI .int ∧ va_RA s tI .int := ⟨fun n z => ⟨fun k h => (by cases h), kI, gI, mI, jI⟩, fI⟩
  obtain ⟨tJ, kJ, mJ, fJ, gJ, jJ⟩ := Cond.arrayClass_spec (htg _ zac_long)
  have hAJ : ArrOfT s tJ .long ∧ va_RA s tJ .long := ⟨fun n z => ⟨fun k h => (by cases h), kJ, gJ, mJ, jJ⟩, fJ⟩
  obtain ⟨tZ, kZ, mZ, fZ, gZ, jZ⟩ := Cond.arrayClass_spec (htg _ zac_boolean)
  have hAZ : ArrOfT s tZ .boolean ∧ va_RA s tZ .boolean := ⟨fun n z => ⟨fun k h => (by cases h), kZ, gZ, mZ, jZ⟩, fZ⟩
  obtain ⟨mA, tA, kA, fA1, fA2, fA3, fA4, fA5⟩ := Cond.arrayOver_spec (hts _ zw_over)
  have hAA : ArrOfT s tA (.object "CurveMeetings$Arc") ∧ va_RA s tA (.object "CurveMeetings$Arc") := ⟨fun n z => ⟨fun k h => (by cases h), kA, fA3, mA, fA4⟩, ⟨kA, mA, fA3, fA4, fA1, fA5⟩⟩
  have hs := flat_of_before _ hgv
  have hlen := va_eqt (hs (Cond.eq (.length (.static "CurveMeetings" "AREA_WEIGHTS" "[I")) (.int 16)) (by decide +kernel))
  have hnA : ∀ a : Nat, a < s.heap.size → ¬ (fun q : Nat => s.heap.size ≤ q) a := fun a h1 h2 => Nat.not_le.mpr h1 h2
  obtain ⟨t, ht, hT⟩ := va_Tof (N := 16) (f := fun j => .int (zaw j)) (by decide) (hs (Cond.arrayOf (.static "CurveMeetings" "AREA_WEIGHTS" "[I") .int) (by decide +kernel)) hlen (fun j hj => by
    rcases (show j = 0 ∨ j = 1 ∨ j = 2 ∨ j = 3 ∨ j = 4 ∨ j = 5 ∨ j = 6 ∨ j = 7 ∨ j = 8 ∨ j = 9 ∨ j = 10 ∨ j = 11 ∨ j = 12 ∨ j = 13 ∨ j = 14 ∨ j = 15 by omega) with rfl | rfl | rfl | rfl | rfl | rfl | rfl | rfl | rfl | rfl | rfl | rfl | rfl | rfl | rfl | rfl
    · exact va_eqt (hs (Cond.eq (.elem (.static "CurveMeetings" "AREA_WEIGHTS" "[I") (.int 0)) (.int 0)) (by decide +kernel))
    · exact va_eqt (hs (Cond.eq (.elem (.static "CurveMeetings" "AREA_WEIGHTS" "[I") (.int 1)) (.int 6)) (by decide +kernel))
    · exact va_eqt (hs (Cond.eq (.elem (.static "CurveMeetings" "AREA_WEIGHTS" "[I") (.int 2)) (.int 3)) (by decide +kernel))
    · exact va_eqt (hs (Cond.eq (.elem (.static "CurveMeetings" "AREA_WEIGHTS" "[I") (.int 3)) (.int 1)) (by decide +kernel))
    · exact va_eqt (hs (Cond.eq (.elem (.static "CurveMeetings" "AREA_WEIGHTS" "[I") (.int 4)) (.int 0)) (by decide +kernel))
    · exact va_eqt (hs (Cond.eq (.elem (.static "CurveMeetings" "AREA_WEIGHTS" "[I") (.int 5)) (.int 0)) (by decide +kernel))
    · exact va_eqt (hs (Cond.eq (.elem (.static "CurveMeetings" "AREA_WEIGHTS" "[I") (.int 6)) (.int 3)) (by decide +kernel))
    · exact va_eqt (hs (Cond.eq (.elem (.static "CurveMeetings" "AREA_WEIGHTS" "[I") (.int 7)) (.int 3)) (by decide +kernel))
    · exact va_eqt (hs (Cond.eq (.elem (.static "CurveMeetings" "AREA_WEIGHTS" "[I") (.int 8)) (.int 0)) (by decide +kernel))
    · exact va_eqt (hs (Cond.eq (.elem (.static "CurveMeetings" "AREA_WEIGHTS" "[I") (.int 9)) (.int 0)) (by decide +kernel))
    · exact va_eqt (hs (Cond.eq (.elem (.static "CurveMeetings" "AREA_WEIGHTS" "[I") (.int 10)) (.int 0)) (by decide +kernel))
    · exact va_eqt (hs (Cond.eq (.elem (.static "CurveMeetings" "AREA_WEIGHTS" "[I") (.int 11)) (.int 6)) (by decide +kernel))
    · exact va_eqt (hs (Cond.eq (.elem (.static "CurveMeetings" "AREA_WEIGHTS" "[I") (.int 12)) (.int 0)) (by decide +kernel))
    · exact va_eqt (hs (Cond.eq (.elem (.static "CurveMeetings" "AREA_WEIGHTS" "[I") (.int 13)) (.int 0)) (by decide +kernel))
    · exact va_eqt (hs (Cond.eq (.elem (.static "CurveMeetings" "AREA_WEIGHTS" "[I") (.int 14)) (.int 0)) (by decide +kernel))
    · exact va_eqt (hs (Cond.eq (.elem (.static "CurveMeetings" "AREA_WEIGHTS" "[I") (.int 15)) (.int 0)) (by decide +kernel))) hnA
  have hZ := va_Zref (hts _ zw_lays) (hts _ zw_ini) ht hnA
  generalize hGe : (((s.heap.size, (dC, dI), (tI, tJ, tZ, tA), (fun _ => 0), t) : zG)) = G
  have hSt : zSt G s := by subst hGe; exact ⟨hZ, hT⟩
  have hK : va_K G.2.1 vwCl (ztys G) s := by
    subst hGe
    refine ⟨hKc, fun k q hq => ?_⟩
    match k, hq with
    | 0, hq => cases hq; exact hAI
    | 1, hq => cases hq; exact hAJ
    | 2, hq => cases hq; exact hAZ
    | 3, hq => cases hq; exact hAA
    | k + 4, hq => simp [ztys] at hq
  have hG1 : G.1 = s.heap.size := by subst hGe; rfl
  have hl := lv_entry ([.ref b]) (n := 4) (Nat.le_of_ble_eq_true rfl)
  rw [lg_entry_eq]
  have hP0 : va_P G.2.1 vwCl [] s.heap := fun k q h => by simp at h
  have hD0 : va_D (zA G) [] := ⟨fun i j p q h => by simp at h, fun k q h => by simp at h⟩
  obtain ⟨X, hXe⟩ : ∃ X : zX, X = (p, l, e, room_1, s, m, #[Value.ref b], below, meth, c, 0, 0, lw_Z below #[Value.ref b] s, 4) := ⟨_, rfl⟩
  have C : zI G X cL_law RL 18 4 600000 7302250 := by
    subst hXe
    exact ⟨hx, hb, hml, rfl, hown, htg, hnw, hK, va_AO.of (hts _ zw_over), hSt, by rw [hG1]; exact Nat.le_refl _, by decide, by decide, by decide, by decide⟩
  suffices hz : zU G X [] 0 0 [(0, .ref b)] [] 0 by
    subst hXe
    exact hz s.heap [] _ hP0 hD0 va_S.rf hl
  refine zi_new C (ci := 6) (fs := [.null, .null, .int 0, .null, .null, .null, .null]) zin6 tyX7 tyX7_ok zic_L_7 zwn_6 rfl (fun j hj => by rcases (show j = 0 ∨ j = 1 ∨ j = 2 ∨ j = 3 ∨ j = 4 ∨ j = 5 ∨ j = 6 by omega) with rfl | rfl | rfl | rfl | rfl | rfl | rfl <;> rfl) (by decide) (by decide) dL_law_0 (fun a0 => ?_)
  refine zi_eq (ws2 := [(a0, .inr (6, [.null, .null, .int 0, .null, .null, .null, .null]))]) rfl ?_
  refine zi_dup C rfl dL_law_3 ?_
  refine zi_callI C (c_X7_init X.2.1 G a0) zk_X7_init zim_L_9 (by decide) (by decide) (by decide) (by decide) (Nat.le_of_ble_eq_true rfl) dL_law_4 (fun u => ?_)
  refine zi_astore_n C [1, 0] dL_law_7 rfl (by decide) rfl (lv' := [(0, .ref b), (1, .ref a0)]) ?_
  refine zi_new C (ci := 7) (fs := [.int 0, .int 0, .null, .null, .int 0, .null, .null, .int 0, .null, .null, .null, .int 0, .int 0, .null, .int 0, .int 0, .int 0, .null, .int 0, .int 0, .null, .null, .null, .null, .int 0, .null, .null, .int 0]) zin7 tyX8 tyX8_ok zic_L_10 zwn_7 rfl (fun j hj => by rcases (show j = 0 ∨ j = 1 ∨ j = 2 ∨ j = 3 ∨ j = 4 ∨ j = 5 ∨ j = 6 ∨ j = 7 ∨ j = 8 ∨ j = 9 ∨ j = 10 ∨ j = 11 ∨ j = 12 ∨ j = 13 ∨ j = 14 ∨ j = 15 ∨ j = 16 ∨ j = 17 ∨ j = 18 ∨ j = 19 ∨ j = 20 ∨ j = 21 ∨ j = 22 ∨ j = 23 ∨ j = 24 ∨ j = 25 ∨ j = 26 ∨ j = 27 by omega) with rfl | rfl | rfl | rfl | rfl | rfl | rfl | rfl | rfl | rfl | rfl | rfl | rfl | rfl | rfl | rfl | rfl | rfl | rfl | rfl | rfl | rfl | rfl | rfl | rfl | rfl | rfl | rfl <;> rfl) (by decide) (by decide) dL_law_8 (fun a1 => ?_)
  refine zi_dup C rfl dL_law_11 ?_
  refine zi_callI C (c_X8_init X.2.1 G a1 _) zk_X8_init zim_L_12 (by decide) (by decide) (by decide) (by decide) (Nat.le_of_ble_eq_true rfl) dL_law_12 (fun v => ?_)
  refine zi_astore_n C [1, 2, 0] dL_law_15 rfl (by decide) rfl (lv' := [(0, .ref b), (1, .ref a0), (2, .ref a1)]) ?_
  refine zi_iconst C (v := 0) dL_law_16 (by decide) ?_
  refine zi_istore_n C [1, 2, 3, 0] dL_law_17 rfl (by decide) rfl (lv' := [(0, .ref b), (1, .ref a0), (2, .ref a1), (3, .int 0)]) ?_
  refine zi_conv (p := 4) (g := fun k => some (([a0, (u 1), (u 2), (u 3), (u 4), (u 5), (u 6), (u 7), (u 8), (u 9), (u 10), (u 11), (u 12), (u 13), (u 14), (u 15), (u 16), (u 17), (u 18), (u 19), (u 20), (u 21), (u 22), (u 23), (u 24), (u 25), (u 26), (u 27), (u 28), (u 29), (u 30), (u 31), (u 32), (u 33), (u 34), (u 35), (u 36), (u 37), (u 38), (u 39), (u 40), (u 41), (u 42), (u 43), (u 44), (u 45), (u 46), a1, (v 1), (v 2), (v 3), (v 4), (v 5), (v 6), (v 7), (v 8), (v 9), (v 10), (v 11), (v 12), (v 13), (v 14), (v 15)] : List Nat).getD (5 + 6 * k) 0)) rfl (fun j hj => by rcases (show j = 0 ∨ j = 1 ∨ j = 2 ∨ j = 3 by omega) with rfl | rfl | rfl | rfl <;> rfl) ?_
  obtain ⟨G2, hG2⟩ : ∃ G2 : zG, G2 = (G.1, G.2.1, G.2.2.1, (fun o => ([a0, (u 1), (u 2), (u 3), (u 4), (u 5), (u 6), (u 7), (u 8), (u 9), (u 10), (u 11), (u 12), (u 13), (u 14), (u 15), (u 16), (u 17), (u 18), (u 19), (u 20), (u 21), (u 22), (u 23), (u 24), (u 25), (u 26), (u 27), (u 28), (u 29), (u 30), (u 31), (u 32), (u 33), (u 34), (u 35), (u 36), (u 37), (u 38), (u 39), (u 40), (u 41), (u 42), (u 43), (u 44), (u 45), (u 46), a1, (v 1), (v 2), (v 3), (v 4), (v 5), (v 6), (v 7), (v 8), (v 9), (v 10), (v 11), (v 12), (v 13), (v 14), (v 15)] : List Nat).getD o 0), G.2.2.2.2) := ⟨_, rfl⟩
  refine zU_toV (G' := G2) (M := zM0) (by subst hG2; exact ⟨rfl, rfl⟩) (by subst hG2; rfl) rfl (fun hAd => ?_)
  have hSt2 : zSt G2 s := by subst hG2; exact hSt
  have hK2 : va_K G2.2.1 vwCl (ztys G2) s := by subst hG2; exact hK
  have hG21 : G2.1 = s.heap.size := by subst hG2; exact hG1
  have e0 : a0 = G2.2.2.2.1 0 := by subst hG2; rfl
  have e1 : a1 = G2.2.2.2.1 47 := by subst hG2; rfl
  rw [e0, e1]
  subst hXe
  refine w_L_law_l18 (b := b) (L := L) (xs := xs) ⟨hx, hb, hml, rfl, hown, htg, hnw, hK2, hAd, hSt2, Nat.le_of_ble_eq_true rfl, Nat.le_of_ble_eq_true rfl, Nat.le_of_ble_eq_true rfl, Nat.le_of_ble_eq_true rfl⟩ ⟨hX, hbl, by rw [hG21]; exact hbl⟩ N (fun r _ => r = 1) ?_ N 0 zM0 hp
  intro M lv v pc hn hv hd H locs ls hP hS hl
  subst hv
  refine va_forget (fun q hq => by rw [← hG21]; exact hS.2.2 q hq) ?_
  refine W.widen (k := 600000) (n := 7302250) (by decide) (by decide) ?_
  exact lw_ret hx hb hr hlocks hd
