/-! the simulations, fourth part -/
theorem s_isKindX {x : Int32} {post : Int32 → Prop} (ht : ∀ c, c ≤ 5 → x = nI c → post (nI 1)) (hf : (¬ ∃ c, (0 ≤ c ∧ c ≤ 5) ∧ x = nI c) → post (nI 0)) : wp_X10_isKind post x := by
  unfold wp_X10_isKind
  rcases i_cases x (n := 5) (by decide) with ⟨c, hc, rfl⟩ | ⟨z1, z2⟩ | ⟨⟨z1, z2⟩, ⟨z3, z4⟩, z5, z6⟩
  · exact wf (nI_pos (by omega)) (wf (nI_ge (by omega) (by decide)) (ht c hc rfl))
  · exact wt z1 (hf (i_no1 (by decide) z1))
  · exact wf z1 (wt z5 (hf (i_no2 (by decide) z3)))
theorem s_isSortX {x : Int32} {post : Int32 → Prop} (ht : ∀ c, c ≤ 5 → x = nI c → post (nI 1)) (hf : (¬ ∃ c, (0 ≤ c ∧ c ≤ 5) ∧ x = nI c) → post (nI 0)) : wp_X10_isSort post x := by
  unfold wp_X10_isSort
  rcases i_cases x (n := 5) (by decide) with ⟨c, hc, rfl⟩ | ⟨z1, z2⟩ | ⟨⟨z1, z2⟩, ⟨z3, z4⟩, z5, z6⟩
  · exact wf (nI_pos (by omega)) (wf (nI_ge (by omega) (by decide)) (ht c hc rfl))
  · exact wt z1 (hf (i_no1 (by decide) z1))
  · exact wf z1 (wt z5 (hf (i_no2 (by decide) z3)))
theorem m_inY {c n : Nat} (hn : n < 2 ^ 31) (hc : c ≤ n) {post : Int32 → Prop} (hp : post (nI 1)) : wp_X11_in post (nI c).toInt64 (lN 0) (lN n) := m_inN hn (by decide) (fun _ _ _ _ => hp) (fun q => absurd ⟨c, ⟨Nat.zero_le _, hc⟩, rfl⟩ q)
theorem m_inX {x : Int32} {n : Nat} (hn : n < 2 ^ 31) (q : ¬ ∃ c, (0 ≤ c ∧ c ≤ n) ∧ x = nI c) {post : Int32 → Prop} (hp : post (nI 0)) : wp_X11_in post x.toInt64 (lN 0) (lN n) := m_inN hn (by decide) (fun c c0 c1 e => absurd ⟨c, ⟨c0, c1⟩, e⟩ q) (fun _ => hp)
theorem sim_kind {sz : Int32} {hr : Int32} {md : Int32} {ca : Int64} {fi : Int64} {vo : Int64} {at_ : Int64} {su : Int64} {gw : Nat → Int32} {cg_refusals : Nat → Int32} {mg_refusals : Nat → Int32} {x1 : Int32} {x2 : Int32} {x3 : Int32} (hH : HR sz hr md ca fi vo at_ su gw) (hR : rfE cg_refusals mg_refusals) {Q : Int32 → Int32 → Int64 → Int64 → (Nat → Int32) → (Nat → Int32) → (Nat → Int32) → Prop} (hq : ∀ r ca' fi' cg_refusals' gw' mg_refusals', HR sz hr md ca' fi' vo at_ su gw' → rfE cg_refusals' mg_refusals' → Q r r ca' fi' cg_refusals' gw' mg_refusals') : wp_X10_kind (fun r ca' fi' cg_refusals' => wp_X11_kind (fun r2 gw' mg_refusals' => Q r r2 ca' fi' cg_refusals' gw' mg_refusals') gw mg_refusals x1 x2 x3) sz ca fi cg_refusals x1 x2 x3 := by
  generalize hP : (fun r ca' fi' cg_refusals' => wp_X11_kind (fun r2 gw' mg_refusals' => Q r r2 ca' fi' cg_refusals' gw' mg_refusals') gw mg_refusals x1 x2 x3) = P
  obtain ⟨h, H, e, hw⟩ := hH
  have h8 := H.1
  have e1 := e.1
  have e4 := e.2.2.2.1
  have e5 := e.2.2.2.2.1
  unfold wp_X10_kind
  unfold wp_X11_kind at hP
  rw [lx_5, lx_9] at hP
  rw [e1]
  refine s_knows (by omega) (fun a ha ea => ?_) (fun q => ?_)
  · subst ea
    refine wf2 n1_0 (s_isKindX (fun k hk ek => ?_) (fun q => ?_))
    · subst ek
      refine wf2 n1_0 ?_
      rcases i_cases x3 (n := 9) (by decide) with ⟨f, hf, rfl⟩ | ⟨z1, z2⟩ | ⟨⟨z1, z2⟩, ⟨z3, z4⟩, z5, z6⟩
      · refine wt (nI_pos' (by omega)) (wt (nI_lt (by omega) (by decide)) ?_)
        have kd := H.kd (show a < 8 by omega)
        have fg := H.fg (show a < 8 by omega)
        have r : wp_X3_recast (fun ca fi => P (nI 10 * nI (h a) + nI (h (8 + a))) ca fi cg_refusals) ca fi (nI a) (nI k) (nI f) := by
          refine s_recast e (by omega) (by omega) (by omega) (fun ca fi e2 => ?_)
          rw [← hP]
          refine m_isClaimN hw H ha (wf2 n1_0 (m_inY (by decide) hk (wf2 n1_0 (m_inY (by decide) hf (wf2 n1_0 ?_)))))
          rw [nI_add 0 a, nI_add 8 a, Nat.zero_add, nI_clamp (show a < 2 ^ 31 by omega), nI_clamp (show 8 + a < 2 ^ 31 by omega), hw a (by omega), hw (8 + a) (by omega)]
          refine ⟨vp_in_nI (by omega) (by decide), vp_in_nI (by omega) (by decide), ?_⟩
          rintro y rfl
          refine ⟨vp_in_nI (by omega) (by decide), vp_in_nI (by omega) (by decide), ?_⟩
          have H2 := H.set_kd ha hk
          have H3 := H2.set_fg (a := a) (v := f) (by rw [upN_n _ (by omega)]; exact ha) hf
          exact hq _ _ _ _ _ _ ⟨_, H3, e2, (hw.set a k).set (8 + a) f⟩ hR
        rw [e4, e5] at r ⊢
        exact s_kindOf H.r_kd (by omega) (s_figureOf H.r_fg (by omega) r)
      · refine wf z2 (s_refuse rx4 (by decide) (by decide) ?_)
        rw [← hP]
        refine m_isClaimN hw H ha (wf2 n1_0 (m_inY (by decide) hk (wf2 n1_0 (m_inX (by decide) (i_no1 (by decide) z1) (wt2 rfl (wf z2 ?_))))))
        exact m_refused rx4 (by decide) (hq _ _ _ _ _ _ ⟨h, H, e, hw⟩ (hR.up 4))
      · refine wt z2 (wf z6 (s_refuse rx6 (by decide) (by decide) ?_))
        rw [← hP]
        refine m_isClaimN hw H ha (wf2 n1_0 (m_inY (by decide) hk (wf2 n1_0 (m_inX (by decide) (i_no2 (by decide) z3) (wt2 rfl (wt z2 ?_))))))
        exact m_refused rx6 (by decide) (hq _ _ _ _ _ _ ⟨h, H, e, hw⟩ (hR.up 6))
    · refine wt2 rfl (s_refuse rx2 (by decide) (by decide) ?_)
      rw [← hP]
      refine m_isClaimN hw H ha (wf2 n1_0 (m_inX (by decide) q (wt2 rfl ?_)))
      exact m_refused rx2 (by decide) (hq _ _ _ _ _ _ ⟨h, H, e, hw⟩ (hR.up 2))
  · refine wt2 rfl (s_refuse rx1 (by decide) (by decide) ?_)
    rw [← hP]
    refine m_isClaim hw H (fun c hc ec => absurd ⟨c, hc, ec⟩ q) (fun _ => wt2 rfl ?_)
    exact m_refused rx1 (by decide) (hq _ _ _ _ _ _ ⟨h, H, e, hw⟩ (hR.up 1))
