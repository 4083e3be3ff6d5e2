/-! ===== calls, returns, entries ===== -/
/-- what a callee needs of the tables -/
def zkV (y : MethodName) (cy : ByteArray) (mL : Nat) (ret : Option FieldType) (n : Nat) : Prop := Cond.code y cy mL ret ∈ zgw ∧ Cond.instanceMethod y ∈ zgw ∧ Cond.selects y.cls y y ∈ zgw ∧ Cond.initialized y.cls ∈ zgw ∧ (y.cls ≠ "java/lang/invoke/MethodHandle" ∧ y.cls ≠ "java/lang/invoke/VarHandle" ∧ (parseMethodDescriptor y.desc).map (fun d => d.parameters.length) = some n)
def zkS (y : MethodName) (cy : ByteArray) (mL : Nat) (ret : Option FieldType) (n : Nat) : Prop := Cond.code y cy mL ret ∈ zgw ∧ Cond.static y ∈ zgw ∧ Cond.initialized y.cls ∈ zgw ∧ (y.cls ≠ "java/lang/invoke/MethodHandle" ∧ y.cls ≠ "java/lang/invoke/VarHandle" ∧ (parseMethodDescriptor y.desc).map (fun d => d.parameters.length) = some n)
/-- the cell o is an object of the class of that name -/
def zRc (o : Nat) (C : String) : Prop := ∃ (ci : Nat) (q : vw_C), zkd o = ci ∧ ci < 8 ∧ vwCl[ci]? = some q ∧ q.1 = C
theorem zent_obj {G : zG} {M : zMem} {o ci : Nat} (h : zkd o = ci) (hc : ci < 8) : ∃ fs, zent G M o = .inr (ci, fs) := by
  have hh : ci = 0 ∨ ci = 1 ∨ ci = 2 ∨ ci = 3 ∨ ci = 4 ∨ ci = 5 ∨ ci = 6 ∨ ci = 7 := by omega
  rcases hh with rfl | rfl | rfl | rfl | rfl | rfl | rfl | rfl
  · exact ⟨_, zent_0 h⟩
  · exact ⟨_, zent_1 h⟩
  · exact ⟨_, zent_2 h⟩
  · exact ⟨_, zent_3 h⟩
  · exact ⟨_, zent_4 h⟩
  · exact ⟨_, zent_5 h⟩
  · exact ⟨_, zent_6 h⟩
  · exact ⟨_, zent_7 h⟩
theorem zRc_cell {G : zG} {M : zMem} {s : State} {H : Heap} {o : Nat} {C : String} (h : zRc o C) (hK : va_K G.2.1 vwCl (ztys G) s) (hP : va_P G.2.1 vwCl (zWd G M) H) : ∃ cell : Cell, H[G.2.2.2.1 o]? = some cell ∧ cell.vm.isStatics = false ∧ s.vm.findClass C = some cell.cls := by
  obtain ⟨ci, q, h1, h2, h3, h4⟩ := h
  obtain ⟨fs, hfs⟩ := zent_obj (G := G) (M := M) h1 h2
  rw [← h4]
  exact va_recv hK hP h3 ((zWd_at G M (zkd_lt h1 (by omega))).trans (by rw [hfs]))
theorem zS_blind {G : zG} {M : zMem} {as : List Value} : FrameBlind (va_Pc as (zS G M)) := by
  intro a U g mk q
  obtain ⟨q0, qP, qK, qA, qS, qN⟩ := q
  exact ⟨q0, qP, va_K.moved (u := U) (U := U.calling g mk a) (Vm.Alike.refl U.vm) qK, qA, qS.go (t := U.calling g mk a) (Vm.Alike.refl U.vm) (fun _ _ _ => rfl), fun w hw => znw_same (u := U) (U := U.calling g mk a) rfl hw (qN w hw)⟩
theorem zS_warm {G : zG} {M : zMem} {s U : State} {H : Heap} {locs : List Loc} (hU : U.heap = H) (hW : s.WarmedH U.vm) (hP : va_P G.2.1 vwCl (zWd G M) H) (hK : va_K G.2.1 vwCl (ztys G) s) (hAd : zAd G) (hSt : zSt G s) (hnw : ∀ w ∈ znw, va_Nw w s) (hS : va_S (zA G) s.heap H locs) : zS G M U :=
  ⟨by rw [hU]; exact hP, va_K.moved hW.alike hK, hAd, hSt.go hW.alike (fun a h1 h2 => by rw [hU]; exact hS.2.1 a h1 h2), fun w hw => znw_warm hW hw (hnw w hw)⟩
section ZCALL
variable {G : zG} {X : zX} {M : zMem} {cc : ByteArray} {own : String} {h nL : Nat} {lv : List (Nat × Value)} {st rest as : List Value} {pc : Nat}
  {y : MethodName} {cy : ByteArray} {mL n h' o idx : Nat} {ret : Option FieldType} {Qc : Array Value → State → Outcome → State → Prop}
theorem zrunV (C : zC G X cc own h nL) (hM : Met X.2.1 y (.code y cy mL ret :: zgw) (zrm h') (va_Pc (zR G o :: as) (zS G M)) Qc 0 0 (zA G)) (hk : zkV y cy mL ret n) (hl : Cond.methodLink own idx y ∈ zgw) (hrc : zRc o y.cls) (hh : h' + 1 ≤ h) (hm : mL ≤ 150) (hn : as.length = n) (hr : (rest.map fun v => v.category).sum ≤ 8) (hst : st = as.reverse ++ zR G o :: rest) (hd : decode cc pc = .ok (.invokevirtual idx, 3)) : zRun G X M lv st pc rest (Qc (zR G o :: as).toArray) := by
  obtain ⟨p, l, e, R, s, m, args, below, meth, c, cells, slots, Q, nL1⟩ := X
  obtain ⟨hx, hb, hml, rfl, hown, hts, hnw, hK, hAd, hSt, hfr, hlo, hce, hsl⟩ := C
  intro H locs ls hP hS hls
  obtain ⟨hk1, hk2, hk3, hk4, hk5⟩ := hk
  refine va_runV (As := as) (rest := rest) ⟨hx, hb, hml, hown, hts⟩ hM ⟨callB_of n hts (zgood (fun _ h => h) hk1) rfl rfl rfl (hts _ hk4) (hts _ hl) hk5 ⟨?_, ?_⟩, hts _ hk2, hts _ hk3⟩ ⟨zS_blind, zRc_cell hrc hK hP, fun U hU hW => ⟨rfl, zS_warm hU hW hP hK hAd hSt hnw hS⟩⟩ rfl hn hls.1 hst (lv_room hr) hd ⟨hce, hsl⟩
  · show h' + 1 ≤ R.frames; omega
  · show 8 + (mL + 11) + 200 * h' ≤ R.locals; omega
theorem zrunVN {host : String} (C : zC G X cc own h nL) (hM : Met X.2.1 y (.code y cy mL ret :: zgw) (zrm h') (va_Pc (zR G o :: as) (zS G M)) Qc 0 0 (zA G)) (hk : zkV y cy mL ret n) (hl : Cond.methodLinkNest own idx y host ∈ znw) (hrc : zRc o y.cls) (hh : h' + 1 ≤ h) (hm : mL ≤ 150) (hn : as.length = n) (hr : (rest.map fun v => v.category).sum ≤ 8) (hst : st = as.reverse ++ zR G o :: rest) (hd : decode cc pc = .ok (.invokevirtual idx, 3)) : zRun G X M lv st pc rest (Qc (zR G o :: as).toArray) := by
  obtain ⟨p, l, e, R, s, m, args, below, meth, c, cells, slots, Q, nL1⟩ := X
  obtain ⟨hx, hb, hml, rfl, hown, hts, hnw, hK, hAd, hSt, hfr, hlo, hce, hsl⟩ := C
  intro H locs ls hP hS hls
  obtain ⟨hk1, hk2, hk3, hk4, hk5⟩ := hk
  refine va_runVN (As := as) (rest := rest) ⟨hx, hb, hml, hown, hts⟩ hM ⟨va_cnB n hts (zgood (fun _ h => h) hk1) rfl rfl rfl (hnw _ hl) (hts _ hk4) hk5 ⟨?_, ?_⟩, hts _ hk2, hts _ hk3⟩ ⟨zS_blind, zRc_cell hrc hK hP, fun U hU hW => ⟨rfl, zS_warm hU hW hP hK hAd hSt hnw hS⟩⟩ rfl hn hls.1 hst (lv_room hr) hd ⟨hce, hsl⟩
  · show h' + 1 ≤ R.frames; omega
  · show 8 + (mL + 11) + 200 * h' ≤ R.locals; omega
theorem zrunS (C : zC G X cc own h nL) (hM : Met X.2.1 y (.code y cy mL ret :: zgw) (zrm h') (va_Pc as (zS G M)) Qc 0 0 (zA G)) (hk : zkS y cy mL ret n) (hl : Cond.methodLink own idx y ∈ zgw) (hh : h' + 1 ≤ h) (hm : mL ≤ 150) (hn : as.length = n) (hr : (rest.map fun v => v.category).sum ≤ 8) (hst : st = as.reverse ++ rest) (hd : decode cc pc = .ok (.invokestatic idx, 3)) : zRun G X M lv st pc rest (Qc as.toArray) := by
  obtain ⟨p, l, e, R, s, m, args, below, meth, c, cells, slots, Q, nL1⟩ := X
  obtain ⟨hx, hb, hml, rfl, hown, hts, hnw, hK, hAd, hSt, hfr, hlo, hce, hsl⟩ := C
  intro H locs ls hP hS hls
  obtain ⟨hk1, hk2, hk4, hk5⟩ := hk
  refine va_runS (As := as) (rest := rest) ⟨hx, hb, hml, hown, hts⟩ hM ⟨callB_of n hts (zgood (fun _ h => h) hk1) rfl rfl rfl (hts _ hk4) (hts _ hl) hk5 ⟨?_, ?_⟩, hts _ hk2⟩ ⟨zS_blind, fun U hU hW => ⟨rfl, zS_warm hU hW hP hK hAd hSt hnw hS⟩⟩ rfl hn hls.1 hst (lv_room hr) hd ⟨hce, hsl⟩
  · show h' + 1 ≤ R.frames; omega
  · show 8 + (mL + 11) + 200 * h' ≤ R.locals; omega
theorem zrunSN {host : String} (C : zC G X cc own h nL) (hM : Met X.2.1 y (.code y cy mL ret :: zgw) (zrm h') (va_Pc as (zS G M)) Qc 0 0 (zA G)) (hk : zkS y cy mL ret n) (hl : Cond.methodLinkNest own idx y host ∈ znw) (hh : h' + 1 ≤ h) (hm : mL ≤ 150) (hn : as.length = n) (hr : (rest.map fun v => v.category).sum ≤ 8) (hst : st = as.reverse ++ rest) (hd : decode cc pc = .ok (.invokestatic idx, 3)) : zRun G X M lv st pc rest (Qc as.toArray) := by
  obtain ⟨p, l, e, R, s, m, args, below, meth, c, cells, slots, Q, nL1⟩ := X
  obtain ⟨hx, hb, hml, rfl, hown, hts, hnw, hK, hAd, hSt, hfr, hlo, hce, hsl⟩ := C
  intro H locs ls hP hS hls
  obtain ⟨hk1, hk2, hk4, hk5⟩ := hk
  refine va_runSN (As := as) (rest := rest) ⟨hx, hb, hml, hown, hts⟩ hM ⟨va_cnB n hts (zgood (fun _ h => h) hk1) rfl rfl rfl (hnw _ hl) (hts _ hk4) hk5 ⟨?_, ?_⟩, hts _ hk2, trivial⟩ ⟨zS_blind, fun U hU hW => ⟨rfl, zS_warm hU hW hP hK hAd hSt hnw hS⟩⟩ rfl hn hls.1 hst (lv_room hr) hd ⟨hce, hsl⟩
  · show h' + 1 ≤ R.frames; omega
  · show 8 + (mL + 11) + 200 * h' ≤ R.locals; omega
theorem zcI {Qp : Int32 → zMem → Prop} {a : Array Value} (hr : zRun G X M lv st pc rest (va_Qi Qp (zS G) (zA G) a)) (k : ∀ (r : Int32) (M' : zMem), Qp r M' → zV G X M' lv (.int r :: rest) (pc + 3)) : zV G X M lv st pc := by
  obtain ⟨p, l, e, R, s, m, args, below, meth, c, cells, slots, Q, nL1⟩ := X
  intro H locs ls hP hS hl
  refine va_calli (hr H locs ls hP hS hl) hS (fun _ _ h => h) (fun _ h => h) (fun r u t H1 locs1 ht hvm hw hB hz hk1 hS1 => ?_)
  exact k r u hw H1 locs1 ls (by rw [← ht]; exact hB.1) hS1 hl
theorem zcL {Qp : Int64 → zMem → Prop} {a : Array Value} (hr : zRun G X M lv st pc rest (va_Ql Qp (zS G) (zA G) a)) (k : ∀ (r : Int64) (M' : zMem), Qp r M' → zV G X M' lv (.long r :: rest) (pc + 3)) : zV G X M lv st pc := by
  obtain ⟨p, l, e, R, s, m, args, below, meth, c, cells, slots, Q, nL1⟩ := X
  intro H locs ls hP hS hl
  refine va_calll (hr H locs ls hP hS hl) hS (fun _ _ h => h) (fun _ h => h) (fun r u t H1 locs1 ht hvm hw hB hz hk1 hS1 => ?_)
  exact k r u hw H1 locs1 ls (by rw [← ht]; exact hB.1) hS1 hl
theorem zcU {Qp : zMem → Prop} {a : Array Value} (hr : zRun G X M lv st pc rest (va_Qv Qp (zS G) (zA G) a)) (k : ∀ (M' : zMem), Qp M' → zV G X M' lv rest (pc + 3)) : zV G X M lv st pc := by
  obtain ⟨p, l, e, R, s, m, args, below, meth, c, cells, slots, Q, nL1⟩ := X
  intro H locs ls hP hS hl
  refine va_callv (hr H locs ls hP hS hl) hS (fun _ _ h => h) (fun _ h => h) (fun u t H1 locs1 ht hvm hw hB hz hk1 hS1 => ?_)
  exact k u hw H1 locs1 ls (by rw [← ht]; exact hB.1) hS1 hl
end ZCALL
/-! ===== entries: a contract out of a walk ===== -/
def zRI (G : zG) (X : zX) (cc : ByteArray) (Q : Int32 → zMem → Prop) : Prop := ∀ (M : zMem) (lv : List (Nat × Value)) (v : Int32) (pc : Nat), Q v M → decode cc pc = .ok (.ireturn, 1) → zV G X M lv [.int v] pc
def zRZ (G : zG) (X : zX) (cc : ByteArray) (Q : Int32 → zMem → Prop) : Prop := ∀ (M : zMem) (lv : List (Nat × Value)) (v : Int32) (pc : Nat), narrow .boolean (.int v) = .int v → Q v M → decode cc pc = .ok (.ireturn, 1) → zV G X M lv [.int v] pc
def zRL (G : zG) (X : zX) (cc : ByteArray) (Q : Int64 → zMem → Prop) : Prop := ∀ (M : zMem) (lv : List (Nat × Value)) (v : Int64) (pc : Nat), Q v M → decode cc pc = .ok (.lreturn, 1) → zV G X M lv [.long v] pc
def zRU (G : zG) (X : zX) (cc : ByteArray) (Q : zMem → Prop) : Prop := ∀ (M : zMem) (lv : List (Nat × Value)) (pc : Nat), Q M → decode cc pc = .ok (.return_, 1) → zV G X M lv [] pc
abbrev zMI (l : Launch) (G : zG) (y : MethodName) (cy : ByteArray) (mL : Nat) (ret : FieldType) (h : Nat) (as : List Value) (M : zMem) (Q : Int32 → zMem → Prop) : Prop := Met l y (.code y cy mL (some ret) :: zgw) (zrm h) (va_Pc as (zS G M)) (va_Qi Q (zS G) (zA G)) 0 0 (zA G)
abbrev zML (l : Launch) (G : zG) (y : MethodName) (cy : ByteArray) (mL : Nat) (h : Nat) (as : List Value) (M : zMem) (Q : Int64 → zMem → Prop) : Prop := Met l y (.code y cy mL (some .long) :: zgw) (zrm h) (va_Pc as (zS G M)) (va_Ql Q (zS G) (zA G)) 0 0 (zA G)
abbrev zMU (l : Launch) (G : zG) (y : MethodName) (cy : ByteArray) (mL : Nat) (h : Nat) (as : List Value) (M : zMem) (Q : zMem → Prop) : Prop := Met l y (.code y cy mL none :: zgw) (zrm h) (va_Pc as (zS G M)) (va_Qv Q (zS G) (zA G)) 0 0 (zA G)
section ZENT
variable {l : Launch} {G : zG} {y : MethodName} {cy : ByteArray} {mL h : Nat} {as : List Value} {M : zMem} {lv : List (Nat × Value)}
theorem zEI {Q : Int32 → zMem → Prop} (hy : plainName y.cls = true) (hlen : (lg_sl as).length ≤ mL) (hlv : lv_args 0 as = lv) (body : ∀ X : zX, zC G X cy y.cls h mL → zRI G X cy Q → zV G X M lv [] 0) : zMI l G y cy mL .int h as M Q := by
  refine Met.ofW (cc := cy) (maxL := mL) (ret := some .int) hy rfl ?_
  intro p e s m args below meth c s₁ B hml hv
  obtain ⟨rfl, hP, hK, hAd, hSt, hNw⟩ := hv
  have hts := atoms_spec (ws := .code y cy mL (some .int) :: zgw) B.pre
  have hlocks := B.notSynchronized
  rw [lg_entry_eq]
  refine body (p, l, e, (headSpec (.code y cy mL (some .int) :: zgw) (zrm h)).room, s, m, as.toArray, below, meth, c, 0, 0, MQ below (va_Qi Q (zS G) (zA G)) as.toArray s 0 0 (zA G), mL) ⟨B.exec, B.bytes, hml, rfl, findClass_of_methodNamed B.named, fun w hw => hts w (List.mem_cons_of_mem _ hw), hNw, hK, hAd, hSt, Nat.le_refl _, Nat.le_refl _, Nat.zero_le _, Nat.zero_le _⟩ ?_ s.heap [] _ hP va_S.rf (hlv ▸ lv_entry as hlen)
  intro M' lv' v pc hQ hd H locs ls hP' hS' hl'
  exact W.iret B.exec B.bytes B.returns (fun t ht hW => ⟨⟨v, M', rfl, hQ, zS_warm ht hW hP' hK hAd hSt hNw hS'⟩, hS'.F ht⟩) hS'.2.2 hd hlocks
theorem zEZ {Q : Int32 → zMem → Prop} (hy : plainName y.cls = true) (hlen : (lg_sl as).length ≤ mL) (hlv : lv_args 0 as = lv) (body : ∀ X : zX, zC G X cy y.cls h mL → zRZ G X cy Q → zV G X M lv [] 0) : zMI l G y cy mL .boolean h as M Q := by
  refine Met.ofW (cc := cy) (maxL := mL) (ret := some .boolean) hy rfl ?_
  intro p e s m args below meth c s₁ B hml hv
  obtain ⟨rfl, hP, hK, hAd, hSt, hNw⟩ := hv
  have hts := atoms_spec (ws := .code y cy mL (some .boolean) :: zgw) B.pre
  have hlocks := B.notSynchronized
  rw [lg_entry_eq]
  refine body (p, l, e, (headSpec (.code y cy mL (some .boolean) :: zgw) (zrm h)).room, s, m, as.toArray, below, meth, c, 0, 0, MQ below (va_Qi Q (zS G) (zA G)) as.toArray s 0 0 (zA G), mL) ⟨B.exec, B.bytes, hml, rfl, findClass_of_methodNamed B.named, fun w hw => hts w (List.mem_cons_of_mem _ hw), hNw, hK, hAd, hSt, Nat.le_refl _, Nat.le_refl _, Nat.zero_le _, Nat.zero_le _⟩ ?_ s.heap [] _ hP va_S.rf (hlv ▸ lv_entry as hlen)
  intro M' lv' v pc hn hQ hd H locs ls hP' hS' hl'
  exact W.zret B.exec B.bytes B.returns hn (fun t ht hW => ⟨⟨v, M', rfl, hQ, zS_warm ht hW hP' hK hAd hSt hNw hS'⟩, hS'.F ht⟩) hS'.2.2 hd hlocks
theorem zEL {Q : Int64 → zMem → Prop} (hy : plainName y.cls = true) (hlen : (lg_sl as).length ≤ mL) (hlv : lv_args 0 as = lv) (body : ∀ X : zX, zC G X cy y.cls h mL → zRL G X cy Q → zV G X M lv [] 0) : zML l G y cy mL h as M Q := by
  refine Met.ofW (cc := cy) (maxL := mL) (ret := some .long) hy rfl ?_
  intro p e s m args below meth c s₁ B hml hv
  obtain ⟨rfl, hP, hK, hAd, hSt, hNw⟩ := hv
  have hts := atoms_spec (ws := .code y cy mL (some .long) :: zgw) B.pre
  have hlocks := B.notSynchronized
  rw [lg_entry_eq]
  refine body (p, l, e, (headSpec (.code y cy mL (some .long) :: zgw) (zrm h)).room, s, m, as.toArray, below, meth, c, 0, 0, MQ below (va_Ql Q (zS G) (zA G)) as.toArray s 0 0 (zA G), mL) ⟨B.exec, B.bytes, hml, rfl, findClass_of_methodNamed B.named, fun w hw => hts w (List.mem_cons_of_mem _ hw), hNw, hK, hAd, hSt, Nat.le_refl _, Nat.le_refl _, Nat.zero_le _, Nat.zero_le _⟩ ?_ s.heap [] _ hP va_S.rf (hlv ▸ lv_entry as hlen)
  intro M' lv' v pc hQ hd H locs ls hP' hS' hl'
  exact W.lret B.exec B.bytes B.returns (fun t ht hW => ⟨⟨v, M', rfl, hQ, zS_warm ht hW hP' hK hAd hSt hNw hS'⟩, hS'.F ht⟩) hS'.2.2 hd hlocks
theorem zEU {Q : zMem → Prop} (hy : plainName y.cls = true) (hlen : (lg_sl as).length ≤ mL) (hlv : lv_args 0 as = lv) (body : ∀ X : zX, zC G X cy y.cls h mL → zRU G X cy Q → zV G X M lv [] 0) : zMU l G y cy mL h as M Q := by
  refine Met.ofW (cc := cy) (maxL := mL) (ret := none) hy rfl ?_
  intro p e s m args below meth c s₁ B hml hv
  obtain ⟨rfl, hP, hK, hAd, hSt, hNw⟩ := hv
  have hts := atoms_spec (ws := .code y cy mL none :: zgw) B.pre
  have hlocks := B.notSynchronized
  rw [lg_entry_eq]
  refine body (p, l, e, (headSpec (.code y cy mL none :: zgw) (zrm h)).room, s, m, as.toArray, below, meth, c, 0, 0, MQ below (va_Qv Q (zS G) (zA G)) as.toArray s 0 0 (zA G), mL) ⟨B.exec, B.bytes, hml, rfl, findClass_of_methodNamed B.named, fun w hw => hts w (List.mem_cons_of_mem _ hw), hNw, hK, hAd, hSt, Nat.le_refl _, Nat.le_refl _, Nat.zero_le _, Nat.zero_le _⟩ ?_ s.heap [] _ hP va_S.rf (hlv ▸ lv_entry as hlen)
  intro M' lv' pc hQ hd H locs ls hP' hS' hl'
  exact W.vret B.exec B.bytes B.returns (fun t ht hW => ⟨⟨M', rfl, hQ, zS_warm ht hW hP' hK hAd hSt hNw hS'⟩, hS'.F ht⟩) hS'.2.2 hd hlocks
end ZENT
