/-! ===== the law: both sides answer alike, call by call ===== -/
def JJ (M : zMem) : Prop := ∃ n P T H I E, RC n P T H I E M ∧ RR n P T H I E M
theorem JJ_0 : JJ zM0 := by
  have z0 : ∀ c, c ≠ 1 → c ≠ 38 → zM0.1 c = fun _ => 0 := fun c h1 h2 => by show (if c = 1 then _ else if c = 38 then _ else _) = _; rw [if_neg h1, if_neg h2]
  have zz : ∀ c k, c ≠ 1 → c ≠ 38 → zM0.1 c k = iI 0 := fun c k h1 h2 => by rw [z0 c h1 h2]; rfl
  refine ⟨0, fun _ _ => 0, (0, fun _ => 0), (0, fun _ => 0, fun _ _ => 0), (fun _ => False, fun _ _ _ => 0), (0, fun _ => 0, fun _ => 0), ⟨⟨Nat.zero_le _, zz 0 2 (by decide) (by decide), fun k hk => absurd hk (Nat.not_lt_zero k), Or.inl ⟨rfl, rfl⟩, fun a b _ _ h => absurd h (Nat.not_lt_zero a)⟩, ⟨Nat.zero_le _, rfl, fun k hk => absurd hk (Nat.not_lt_zero k)⟩, ⟨Nat.zero_le _, zz 29 2 (by decide) (by decide), fun k hk => absurd hk (Nat.not_lt_zero k)⟩, fun i hi => Or.inl ⟨fun w => w, zz 33 i (by decide) (by decide)⟩, ⟨Nat.zero_le _, zz 35 2 (by decide) (by decide), fun k hk => absurd hk (Nat.not_lt_zero k)⟩⟩, ⟨⟨⟨Nat.zero_le _, zz 47 1 (by decide) (by decide), fun k hk => absurd hk (Nat.not_lt_zero k)⟩, Or.inl (zz 47 11 (by decide) (by decide))⟩, ⟨Nat.zero_le _, zz 47 12 (by decide) (by decide), fun k hk => absurd hk (Nat.not_lt_zero k)⟩, ⟨Nat.zero_le _, zz 47 4 (by decide) (by decide), fun k hk => absurd hk (Nat.not_lt_zero k), fun k hk => absurd hk (Nat.not_lt_zero k)⟩, fun i hi => Or.inl ⟨fun w => w, zz 51 i (by decide) (by decide)⟩, ⟨Nat.zero_le _, zz 47 7 (by decide) (by decide), fun k hk => absurd hk (Nat.not_lt_zero k)⟩⟩⟩
theorem law_l18 {L : Nat} {xs : Nat → Int32} {N : Nat} (hL : L ≤ 2560) (hN : 20000 ≤ N) : ∀ (r f i : Nat) (M : zMem), L ≤ r + i → r + 1 ≤ f → i ≤ L → JJ M → f_L_law_l18 N L xs (fun r _ => r = 1) f (iI (i : Int)) M := by
  intro r
  induction r with
  | zero =>
    intro f i M h1 h2 h3 hJ
    obtain ⟨f, rfl⟩ : ∃ g, f = g + 1 := ⟨f - 1, by omega⟩
    show f_L_law_b18 N L xs (f_L_law_l18 N L xs (fun r _ => r = 1) f) (iI (i : Int)) M (fun r _ => r = 1)
    unfold f_L_law_b18
    rw [nI_iI, iI_5, iI_sub, iI_lt (by omega) (by omega) (by omega) (by omega)]
    exact ⟨fun _ => rfl, fun c => by omega⟩
  | succ r ih =>
    intro f i M h1 h2 h3 hJ
    obtain ⟨f, rfl⟩ : ∃ g, f = g + 1 := ⟨f - 1, by omega⟩
    show f_L_law_b18 N L xs (f_L_law_l18 N L xs (fun r _ => r = 1) f) (iI (i : Int)) M (fun r _ => r = 1)
    unfold f_L_law_b18
    rw [nI_iI, iI_5, iI_sub, iI_lt (by omega) (by omega) (by omega) (by omega)]
    refine ⟨fun _ => rfl, fun c => ⟨?_, ?_⟩⟩
    · rw [iI_in (by omega) (by omega)]
      omega
    have v1 : vp_in (iI (i : Int) + 1) L := by rw [iI_1, iI_add, iI_in (by omega) (by omega)]; omega
    have v2 : vp_in (iI (i : Int) + 2) L := by rw [iI_2, iI_add, iI_in (by omega) (by omega)]; omega
    have v3 : vp_in (iI (i : Int) + 3) L := by rw [iI_3, iI_add, iI_in (by omega) (by omega)]; omega
    have v4 : vp_in (iI (i : Int) + 4) L := by rw [iI_4, iI_add, iI_in (by omega) (by omega)]; omega
    have go : ∀ M', JJ M' → f_L_law_b889 N L xs (f_L_law_l18 N L xs (fun r _ => r = 1) f) (iI (i : Int)) M' (fun r _ => r = 1) := by
      intro M' hJ'
      unfold f_L_law_b889
      intro v e
      rw [iI_5, iI_add, show (i : Int) + 5 = ((i + 5 : Nat) : Int) by omega] at e
      subst e
      exact ih f (i + 5) M' (by omega) (by omega) (by omega) hJ'
    obtain ⟨z1, b1, b1', e1⟩ := iI_of (xs (iI (i : Int) + 1).toNatClampNeg)
    obtain ⟨z2, b2, b2', e2⟩ := iI_of (xs (iI (i : Int) + 2).toNatClampNeg)
    obtain ⟨z3, b3, b3', e3⟩ := iI_of (xs (iI (i : Int) + 3).toNatClampNeg)
    obtain ⟨z4, b4, b4', e4⟩ := iI_of (xs (iI (i : Int) + 4).toNatClampNeg)
    rw [e1, e2, e3, e4]
    have hJc := hJ
    obtain ⟨n, P, T, H, I, E, hC, hR⟩ := hJc
    have o1 : -2147483648 ≤ z1 ∧ z1 < 2147483648 := ⟨b1, b1'⟩
    have o2 : -2147483648 ≤ z2 ∧ z2 < 2147483648 := ⟨b2, b2'⟩
    have o3 : -2147483648 ≤ z3 ∧ z3 < 2147483648 := ⟨b3, b3'⟩
    have o4 : -2147483648 ≤ z4 ∧ z4 < 2147483648 := ⟨b4, b4'⟩
    have l0 : 10 ≤ N := by omega
    have l1 : 100 ≤ N := by omega
    have l2 : 300 ≤ N := by omega
    have l3 : 400 ≤ N := by omega
    have l4 : 3000 ≤ N := by omega
    have l5 : 10000 ≤ N := by omega
    refine ⟨fun _ => ?_, fun _ => ?_, fun _ => ?_, fun _ => ?_, fun _ => ?_, fun _ => ?_, fun _ => ?_, fun _ => ?_, fun _ => ?_, fun _ => ?_, fun _ => ?_, fun _ => ?_, fun _ => ?_, fun _ => ?_, fun _ => ?_, fun _ => ?_, fun _ => ?_, fun _ => ?_, fun _ => ?_, fun _ => ?_, fun _ => ?_, fun _ => ?_, fun _ => ?_, fun _ => go M hJ⟩
    · exact ⟨v1, c_type  hC o1 (fun M1 f1 r1 => ⟨v1, r_type  (RR_c hR f1) o1 (fun M2 f2 r2 => ⟨fun _ => go M2 ⟨_, _, _, _, _, _, RC_r r1 f2, r2⟩, fun e => absurd rfl e⟩)⟩)⟩
    · exact c_clear  hC (fun M1 f1 r1 => r_clear  (RR_c hR f1)  (fun M2 f2 r2 => ⟨fun _ => go M2 ⟨_, _, _, _, _, _, RC_r r1 f2, r2⟩, fun e => absurd rfl e⟩))
    · refine c_arcs l2 hC (fun w M1 f1 r1 => ?_) (fun w M1 f1 r1 => ?_)
      · exact r_arcs l2 (RR_c hR f1) (fun _ M2 f2 r2 => ⟨fun _ => go M2 ⟨_, _, _, _, _, _, RC_r r1 f2, r2⟩, fun e => absurd rfl e⟩) (fun w2 => absurd w2 w)
      · exact r_arcs l2 (RR_c hR f1) (fun w2 => absurd w w2) (fun _ M2 f2 r2 => ⟨fun _ => go M2 ⟨_, _, _, _, _, _, RC_r r1 f2, r2⟩, fun e => absurd rfl e⟩)
    · exact ⟨v1, v2, v3, v4, c_point  hC.1 o1 o2 o3 o4 ⟨v1, v2, v3, v4, r_point l4 hR o1 o2 o3 o4 (fun M2 f2 r2 => ⟨fun _ => go M2 ⟨_, _, _, _, _, _, RC_r hC f2, r2⟩, fun e => absurd rfl e⟩)⟩⟩
    · exact ⟨v1, v2, v3, v4, c_moves l1 hC o1 o2 o3 o4 (fun M1 f1 r1 => ⟨v1, v2, v3, v4, r_moves l3 (RR_c hR f1) o1 o2 o3 o4 (fun M2 f2 r2 => ⟨fun _ => go M2 ⟨_, _, _, _, _, _, RC_r r1 f2, r2⟩, fun e => absurd rfl e⟩)⟩)⟩
    · exact ⟨v1, v2, v3, c_shifts l1 hC o1 o2 o3 (fun M1 f1 r1 => ⟨v1, v2, v3, r_shifts l3 (RR_c hR f1) o1 o2 o3 (fun M2 f2 r2 => ⟨fun _ => go M2 ⟨_, _, _, _, _, _, RC_r r1 f2, r2⟩, fun e => absurd rfl e⟩)⟩)⟩
    · exact ⟨v1, c_reverses l1 hC o1 (fun M1 f1 r1 => ⟨v1, r_reverses l3 (RR_c hR f1) o1 (fun M2 f2 r2 => ⟨fun _ => go M2 ⟨_, _, _, _, _, _, RC_r r1 f2, r2⟩, fun e => absurd rfl e⟩)⟩)⟩
    · exact c_undo l1 hC (fun M1 f1 r1 => r_undo l3 (RR_c hR f1)  (fun M2 f2 r2 => ⟨fun _ => go M2 ⟨_, _, _, _, _, _, RC_r r1 f2, r2⟩, fun e => absurd rfl e⟩))
    · exact ⟨v1, v2, v3, v4, c_apart l4 hC.1 o1 o2 o3 o4 ⟨v1, v2, v3, v4, r_apart l4 hR o1 o2 o3 o4 (fun M2 f2 r2 => ⟨fun _ => go M2 ⟨_, _, _, _, _, _, RC_r hC f2, r2⟩, fun e => absurd rfl e⟩)⟩⟩
    · exact ⟨v1, v2, v3, v4, c_turn l4 hC.1 o1 o2 o3 o4 ⟨v1, v2, v3, v4, r_turn l4 hR o1 o2 o3 o4 (fun M2 f2 r2 => ⟨fun _ => go M2 ⟨_, _, _, _, _, _, RC_r hC f2, r2⟩, fun e => absurd rfl e⟩)⟩⟩
    · exact ⟨v1, v2, c_bends  hC.1 o1 o2 ⟨v1, v2, r_bends l4 hR o1 o2 (fun M2 f2 r2 => ⟨fun _ => go M2 ⟨_, _, _, _, _, _, RC_r hC f2, r2⟩, fun e => absurd rfl e⟩)⟩⟩
    · exact ⟨v1, v2, v3, c_goes l1 hC.1 o1 o2 o3 ⟨v1, v2, v3, r_goes l4 hR o1 o2 o3 (fun M2 f2 r2 => ⟨fun _ => go M2 ⟨_, _, _, _, _, _, RC_r hC f2, r2⟩, fun e => absurd rfl e⟩)⟩⟩
    · exact ⟨v1, v2, c_area l1 hC.1 o1 o2 ⟨v1, v2, r_area hN hR o1 o2 (fun M2 f2 r2 => ⟨fun _ => go M2 ⟨_, _, _, _, _, _, RC_r hC f2, r2⟩, fun e => absurd rfl e⟩)⟩⟩
    · exact ⟨v1, v2, v3, c_meets l2 hC o1 o2 o3 (fun M1 f1 r1 => ⟨v1, v2, v3, r_meets l5 (RR_c hR f1) o1 o2 o3 (fun M2 f2 r2 => ⟨fun _ => go M2 ⟨_, _, _, _, _, _, RC_r r1 f2, r2⟩, fun e => absurd rfl e⟩)⟩)⟩
    · exact ⟨v1, v2, v3, v4, c_meeting l2 hC o1 o2 o3 o4 (fun M1 f1 r1 => ⟨v1, v2, v3, v4, r_meeting l5 (RR_c hR f1) o1 o2 o3 o4 (fun M2 f2 r2 => ⟨fun _ => go M2 ⟨_, _, _, _, _, _, RC_r r1 f2, r2⟩, fun e => absurd rfl e⟩)⟩)⟩
    · exact ⟨v1, v2, v3, v4, c_spot l2 hC o1 o2 o3 o4 (fun M1 v f1 r1 w1 => ⟨v1, v2, v3, v4, r_spot l5 (RR_c hR f1) o1 o2 o3 o4 (fun M2 v2 f2 r2 w2 => ⟨fun _ => go M2 ⟨_, _, _, _, _, _, RC_r r1 f2, r2⟩, fun e => absurd (by rw [vSpot_un w1 w2]) e⟩)⟩)⟩
    · exact ⟨v1, c_busiest l2 hC o1 (fun M1 f1 r1 => ⟨v1, r_busiest l5 (RR_c hR f1) o1 (fun M2 f2 r2 => ⟨fun _ => go M2 ⟨_, _, _, _, _, _, RC_r r1 f2, r2⟩, fun e => absurd rfl e⟩)⟩)⟩
    · exact ⟨v1, v2, c_sees  hC o1 o2 (fun M1 f1 r1 => ⟨v1, v2, r_sees  (RR_c hR f1) o1 o2 (fun M2 f2 r2 => ⟨fun _ => go M2 ⟨_, _, _, _, _, _, RC_r r1 f2, r2⟩, fun e => absurd rfl e⟩)⟩)⟩
    · exact c_forget  hC (fun M1 f1 r1 => r_forget  (RR_c hR f1)  (fun M2 f2 r2 => ⟨fun _ => go M2 ⟨_, _, _, _, _, _, RC_r r1 f2, r2⟩, fun e => absurd rfl e⟩))
    · exact c_unseen l2 hC (fun M1 f1 r1 => r_unseen l5 (RR_c hR f1)  (fun M2 f2 r2 => ⟨fun _ => go M2 ⟨_, _, _, _, _, _, RC_r r1 f2, r2⟩, fun e => absurd rfl e⟩))
    · exact ⟨v1, c_keep l1 hC o1 (fun M1 f1 r1 => ⟨v1, r_keep l1 (RR_c hR f1) o1 (fun M2 f2 r2 => ⟨fun _ => go M2 ⟨_, _, _, _, _, _, RC_r r1 f2, r2⟩, fun e => absurd rfl e⟩)⟩)⟩
    · exact ⟨v1, c_back l1 hC o1 (fun M1 f1 r1 => ⟨v1, r_back l1 (RR_c hR f1) o1 (fun M2 f2 r2 => ⟨fun _ => go M2 ⟨_, _, _, _, _, _, RC_r r1 f2, r2⟩, fun e => absurd rfl e⟩)⟩)⟩
    · exact ⟨v1, c_cnt  hC o1 ⟨v1, r_cnt  hR o1 (fun M2 f2 r2 => ⟨fun _ => go M2 ⟨_, _, _, _, _, _, RC_r hC f2, r2⟩, fun e => absurd rfl e⟩)⟩⟩
theorem law_ok {L : Nat} {xs : Nat → Int32} (hL : L ≤ 2560) : ∃ N, f_L_law_l18 N L xs (fun r _ => r = 1) N 0 zM0 :=
  ⟨20000, law_l18 hL (by decide) L 20000 0 zM0 (by omega) (by omega) (Nat.zero_le _) JJ_0⟩
