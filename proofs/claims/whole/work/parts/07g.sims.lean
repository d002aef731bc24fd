/-! the simulations, third part -/
theorem sim_attacks {sz : Int32} {hr : Int32} {md : Int32} {ca : Int64} {fi : Int64} {vo : Int64} {at_ : Int64} {su : Int64} {gw : Nat → Int32} {cg_refusals : Nat → Int32} {mg_refusals : Nat → Int32} {x1 : Int32} {x2 : Int32} (hH : HR sz hr md ca fi vo at_ su gw) (hR : rfE cg_refusals mg_refusals) {Q : Int32 → Int32 → Int64 → (Nat → Int32) → (Nat → Int32) → (Nat → Int32) → Prop} (hq : ∀ r at_' cg_refusals' gw' mg_refusals', HR sz hr md ca fi vo at_' su gw' → rfE cg_refusals' mg_refusals' → Q r r at_' cg_refusals' gw' mg_refusals') : wp_X10_attacks (fun r at_' cg_refusals' => wp_X11_attacks (fun r2 gw' mg_refusals' => Q r r2 at_' cg_refusals' gw' mg_refusals') gw mg_refusals x1 x2) sz at_ cg_refusals x1 x2 := by
  generalize hP : (fun r at_' cg_refusals' => wp_X11_attacks (fun r2 gw' mg_refusals' => Q r r2 at_' cg_refusals' gw' mg_refusals') gw mg_refusals x1 x2) = P
  obtain ⟨h, H, e, hw⟩ := hH
  have h8 := H.1
  have he := e
  obtain ⟨rfl, rfl, rfl, rfl, rfl, rfl, rfl, rfl⟩ := e
  unfold wp_X10_attacks
  unfold wp_X11_attacks wp_X11_toggles at hP
  refine s_knows (by omega) (fun a ha ea => ?_) (fun q => ?_)
  · subst ea
    refine wf n1_0 (s_knows (by omega) (fun b hb eb => ?_) (fun q => ?_))
    · subst eb
      refine wf2 n1_0 (wc2 (nI_eq (by omega) (by omega)) (fun q => ?_) (fun q => ?_))
      · refine s_refuse rx3 (by decide) (by decide) ?_
        rw [← hP]
        refine m_isClaimN hw H ha (wf n1_0 (m_isClaimN hw H hb (wf2 n1_0 (wt2 (by rw [q]) ?_))))
        exact m_refused rx3 (by decide) (hq _ _ _ _ _ ⟨h, H, he, hw⟩ (hR.up 3))
      · have R := H.2.2.2 a (by omega)
        have lx : h (24 + a) ^^^ 2 ^ b < 2 ^ (h 42) := Nat.xor_lt_two_pow R.2.1.1 (pw_lt hb)
        have l256 := Nat.lt_of_lt_of_le lx (pw_le H.1)
        have H2 : hv (upN h (24 + a) (h (24 + a) ^^^ 2 ^ b)) := H.set_at ha lx (by rw [Nat.testBit_xor, R.2.2.1, tb_pw, decide_eq_false (fun k => q k.symm)]; rfl)
        have e2 := he.at_up (a := a) (by omega) (h (24 + a) ^^^ 2 ^ b)
        unfold wp_X3_flipAttack
        refine s_pair (by omega) (by omega) ?_
        unfold pL
        rw [lx_xor, pk_xorp (by omega) (by omega)]
        refine (fun (fin : P (zI ((h (24 + a) ^^^ 2 ^ b).testBit b)) (pL (upN (fun c => h (24 + c)) a (h (24 + a) ^^^ 2 ^ b))) cg_refusals) => ?_) ?_
        · refine s_has (by omega) (by omega) ?_
          rw [upN_s]
          exact zc (fun z => by rw [z] at fin; exact fin) (fun z => by rw [z] at fin; exact fin)
        · rw [← hP]
          refine m_isClaimN hw H ha (wf n1_0 (m_isClaimN hw H hb (wf2 n1_0 (wf2 (fun k => q ((nI_eq (by omega) (by omega)).mp k)) ?_))))
          rw [nI_add 24 a, nI_clamp (show 24 + a < 2 ^ 31 by omega), pk_us, hw (24 + a) (by omega), shl_1 (by omega), nx_xor, shr_nI (by omega) (by omega), bit_zI]
          exact ⟨vp_in_nI (by omega) (by decide), vp_in_nI (by omega) (by decide), vp_in_nI (by omega) (by decide), hq _ _ _ _ _ ⟨_, H2, e2, hw.set _ _⟩ hR⟩
    · refine wt2 rfl (s_refuse rx1 (by decide) (by decide) ?_)
      rw [← hP]
      refine m_isClaimN hw H ha (wf n1_0 (m_isClaim hw H (fun c hc ec => absurd ⟨c, hc, ec⟩ q) (fun _ => wt2 rfl ?_)))
      exact m_refused rx1 (by decide) (hq _ _ _ _ _ ⟨h, H, he, hw⟩ (hR.up 1))
  · refine wt rfl (s_refuse rx1 (by decide) (by decide) ?_)
    rw [← hP]
    refine m_isClaim hw H (fun c hc ec => absurd ⟨c, hc, ec⟩ q) (fun _ => wt rfl ?_)
    exact m_refused rx1 (by decide) (hq _ _ _ _ _ ⟨h, H, he, hw⟩ (hR.up 1))
theorem sim_supports {sz : Int32} {hr : Int32} {md : Int32} {ca : Int64} {fi : Int64} {vo : Int64} {at_ : Int64} {su : Int64} {gw : Nat → Int32} {cg_refusals : Nat → Int32} {mg_refusals : Nat → Int32} {x1 : Int32} {x2 : Int32} (hH : HR sz hr md ca fi vo at_ su gw) (hR : rfE cg_refusals mg_refusals) {Q : Int32 → Int32 → Int64 → (Nat → Int32) → (Nat → Int32) → (Nat → Int32) → Prop} (hq : ∀ r su' cg_refusals' gw' mg_refusals', HR sz hr md ca fi vo at_ su' gw' → rfE cg_refusals' mg_refusals' → Q r r su' cg_refusals' gw' mg_refusals') : wp_X10_supports (fun r su' cg_refusals' => wp_X11_supports (fun r2 gw' mg_refusals' => Q r r2 su' cg_refusals' gw' mg_refusals') gw mg_refusals x1 x2) sz su cg_refusals x1 x2 := by
  generalize hP : (fun r su' cg_refusals' => wp_X11_supports (fun r2 gw' mg_refusals' => Q r r2 su' cg_refusals' gw' mg_refusals') gw mg_refusals x1 x2) = P
  obtain ⟨h, H, e, hw⟩ := hH
  have h8 := H.1
  have he := e
  obtain ⟨rfl, rfl, rfl, rfl, rfl, rfl, rfl, rfl⟩ := e
  unfold wp_X10_supports
  unfold wp_X11_supports wp_X11_toggles at hP
  refine s_knows (by omega) (fun a ha ea => ?_) (fun q => ?_)
  · subst ea
    refine wf n1_0 (s_knows (by omega) (fun b hb eb => ?_) (fun q => ?_))
    · subst eb
      refine wf2 n1_0 (wc2 (nI_eq (by omega) (by omega)) (fun q => ?_) (fun q => ?_))
      · refine s_refuse rx3 (by decide) (by decide) ?_
        rw [← hP]
        refine m_isClaimN hw H ha (wf n1_0 (m_isClaimN hw H hb (wf2 n1_0 (wt2 (by rw [q]) ?_))))
        exact m_refused rx3 (by decide) (hq _ _ _ _ _ ⟨h, H, he, hw⟩ (hR.up 3))
      · have R := H.2.2.2 a (by omega)
        have lx : h (32 + a) ^^^ 2 ^ b < 2 ^ (h 42) := Nat.xor_lt_two_pow R.2.1.2 (pw_lt hb)
        have l256 := Nat.lt_of_lt_of_le lx (pw_le H.1)
        have H2 : hv (upN h (32 + a) (h (32 + a) ^^^ 2 ^ b)) := H.set_su ha lx
        have e2 := he.su_up (a := a) (by omega) (h (32 + a) ^^^ 2 ^ b)
        unfold wp_X3_flipSupport
        refine s_pair (by omega) (by omega) ?_
        unfold pL
        rw [lx_xor, pk_xorp (by omega) (by omega)]
        refine (fun (fin : P (zI ((h (32 + a) ^^^ 2 ^ b).testBit b)) (pL (upN (fun c => h (32 + c)) a (h (32 + a) ^^^ 2 ^ b))) cg_refusals) => ?_) ?_
        · refine s_has (by omega) (by omega) ?_
          rw [upN_s]
          exact zc (fun z => by rw [z] at fin; exact fin) (fun z => by rw [z] at fin; exact fin)
        · rw [← hP]
          refine m_isClaimN hw H ha (wf n1_0 (m_isClaimN hw H hb (wf2 n1_0 (wf2 (fun k => q ((nI_eq (by omega) (by omega)).mp k)) ?_))))
          rw [nI_add 32 a, nI_clamp (show 32 + a < 2 ^ 31 by omega), pk_us, hw (32 + a) (by omega), shl_1 (by omega), nx_xor, shr_nI (by omega) (by omega), bit_zI]
          exact ⟨vp_in_nI (by omega) (by decide), vp_in_nI (by omega) (by decide), vp_in_nI (by omega) (by decide), hq _ _ _ _ _ ⟨_, H2, e2, hw.set _ _⟩ hR⟩
    · refine wt2 rfl (s_refuse rx1 (by decide) (by decide) ?_)
      rw [← hP]
      refine m_isClaimN hw H ha (wf n1_0 (m_isClaim hw H (fun c hc ec => absurd ⟨c, hc, ec⟩ q) (fun _ => wt2 rfl ?_)))
      exact m_refused rx1 (by decide) (hq _ _ _ _ _ ⟨h, H, he, hw⟩ (hR.up 1))
  · refine wt rfl (s_refuse rx1 (by decide) (by decide) ?_)
    rw [← hP]
    refine m_isClaim hw H (fun c hc ec => absurd ⟨c, hc, ec⟩ q) (fun _ => wt rfl ?_)
    exact m_refused rx1 (by decide) (hq _ _ _ _ _ ⟨h, H, he, hw⟩ (hR.up 1))
