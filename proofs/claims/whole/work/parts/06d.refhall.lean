/-! the reference: what is told by what stands -/
theorem m_has {s c : Nat} (hs : s < 2 ^ 31) (hc : c < 32) {post : Int32 → Prop} (h : post (zI (s.testBit c))) : wp_X11_has post (nI s) (nI c) := by
  unfold wp_X11_has
  rw [shr_nI hs hc]
  exact zs2 (bit_eq1 c) h
theorem m_isHeard {g : Nat → Int32} {h : Nat → Nat} (hw : ag 43 g h) (H : h 40 < 256) {c : Nat} (hc : c < 32) {post : Int32 → Prop} (hp : post (zI (hd h c))) : wp_X11_isHeard post g (nI c) := by
  unfold wp_X11_isHeard
  refine ⟨vp_in_nI (by decide) (by decide), ?_⟩
  rw [hw.rd (by decide) (by decide)]
  exact m_has (by omega) hc ⟨zI_Z _, hp⟩
theorem m_lets {g : Nat → Int32} {h : Nat → Nat} (hw : ag 43 g h) (H : hv h) {a b : Nat} (ha : a < 8) (hb : b < 8) {post : Int32 → Prop} (hp : post (zI (lets h a b))) : wp_X11_lets post g (nI a) (nI b) := by
  have ka := H.kd ha
  have kb := H.kd hb
  have fa := H.fg ha
  have fb := H.fg hb
  have e : ∀ m : Nat, m ≤ 5 → ∀ n : Nat, n ≤ 5 → (nI m = nI n ↔ m = n) := fun m hm n hn => nI_eq (by omega) (by omega)
  have r0a : g (nI a).toNatClampNeg = nI (h a) := hw.rd (by omega) (by decide)
  have r0b : g (nI b).toNatClampNeg = nI (h b) := hw.rd (by omega) (by decide)
  have r8a : g (nI (8 + a)).toNatClampNeg = nI (h (8 + a)) := hw.rd (by omega) (by decide)
  have r8b : g (nI (8 + b)).toNatClampNeg = nI (h (8 + b)) := hw.rd (by omega) (by decide)
  have hle : (nI (h (8 + b)) ≤ nI (h (8 + a)) ↔ ¬ h (8 + a) < h (8 + b)) := by rw [nI_leI (by omega) (by omega)]; omega
  have v8a : vp_in (nI (8 + a)) 43 := vp_in_nI (by omega) (by decide)
  have v8b : vp_in (nI (8 + b)) 43 := vp_in_nI (by omega) (by decide)
  have e92 : (lets h a b = (!decide (h b = 3) || decide (h a = 3))) → wp_X11_lets_92 post g (nI a) (nI b) (nI (h a)) (nI (h b)) := fun q => by
    rw [q] at hp
    unfold wp_X11_lets_92
    refine wc2 (e _ kb 3 (by decide)) (fun c => ?_) (fun c => ?_)
    · refine wc2 (e _ ka 3 (by decide)) (fun c2 => ?_) (fun c2 => ?_)
      · simpa [c, c2, zI] using hp
      · simpa [c, c2, zI] using hp
    · simpa [c, zI] using hp
  have e69 : (h b = 2 ∨ h b = 3) → (lets h a b = ((!decide (h b = 3) || decide (h a = 3)) && !decide (h (8 + a) < h (8 + b)))) → wp_X11_lets_69 post g (nI a) (nI b) (nI (h a)) (nI (h b)) := fun q0 q => by
    unfold wp_X11_lets_69
    rw [nI_add, nI_add]
    refine ⟨v8a, v8b, ?_⟩
    rw [r8a, r8b]
    refine wc hle (fun c => e92 ?_) (fun c => ?_)
    · rw [q]; simp [c]
    · rw [q] at hp
      have c : h (8 + a) < h (8 + b) := by omega
      simpa [c, zI] using hp
  have e57 : ¬ h a = 5 → (¬ (h a = 1 ∨ h a = 4) ∨ ¬ h (8 + a) < h (8 + b)) → wp_X11_lets_57 post g (nI a) (nI b) (nI (h a)) (nI (h b)) := fun q0 q => by
    unfold wp_X11_lets_57
    refine wc (e _ kb 2 (by decide)) (fun c => e69 (Or.inl c) ?_) (fun c => ?_)
    · unfold lets letb
      rcases q with q | q
      · have q1 : ¬ h a = 1 := fun z => q (Or.inl z)
        have q2 : ¬ h a = 4 := fun z => q (Or.inr z)
        simp [c, q0, q1, q2]
      · simp [c, q0, q]
    · refine wc2 (e _ kb 3 (by decide)) (fun c2 => e69 (Or.inr c2) ?_) (fun c2 => e92 ?_)
      · unfold lets letb
        rcases q with q | q
        · have q1 : ¬ h a = 1 := fun z => q (Or.inl z)
          have q2 : ¬ h a = 4 := fun z => q (Or.inr z)
          simp [c2, q0, q1, q2]
        · simp [c2, q0, q]
      · unfold lets letb
        rcases q with q | q
        · have q1 : ¬ h a = 1 := fun z => q (Or.inl z)
          have q2 : ¬ h a = 4 := fun z => q (Or.inr z)
          simp [c, c2, q0, q1, q2]
        · simp [c, c2, q0, q]
  have e34 : (h a = 1 ∨ h a = 4) → wp_X11_lets_34 post g (nI a) (nI b) (nI (h a)) (nI (h b)) := fun q => by
    unfold wp_X11_lets_34
    rw [nI_add, nI_add]
    refine ⟨v8b, v8a, ?_⟩
    rw [r8a, r8b]
    refine wc hle (fun c => e57 (by omega) (Or.inr c)) (fun c => ?_)
    have c : h (8 + a) < h (8 + b) := by omega
    unfold lets letb at hp
    rcases q with q | q <;> simpa [c, q, zI] using hp
  unfold wp_X11_lets
  rw [nI_add, nI_add, Nat.zero_add, Nat.zero_add]
  refine ⟨vp_in_nI (by omega) (by decide), vp_in_nI (by omega) (by decide), ?_⟩
  rw [r0a, r0b]
  refine wc (e _ ka 5 (by decide)) (fun c => ?_) (fun c => ?_)
  · unfold lets letb at hp
    simpa [c, zI] using hp
  · refine wc (e _ ka 1 (by decide)) (fun c2 => e34 (Or.inl c2)) (fun c2 => ?_)
    exact wc2 (e _ ka 4 (by decide)) (fun c3 => e34 (Or.inr c3)) (fun c3 => e57 c (Or.inl (by omega)))
theorem m_hits {g : Nat → Int32} {h : Nat → Nat} (hw : ag 43 g h) (H : hv h) {a b : Nat} (ha : a < 8) (hb : b < 8) {post : Int32 → Prop} (hp : post (zI (hitB h a b))) : wp_X11_hits post g (nI a) (nI b) := by
  have H4 := H.heard
  unfold wp_X11_hits
  unfold hitB at hp
  refine m_isHeard hw H4 (by omega) ?_
  refine zc (fun q => ?_) (fun q => ?_)
  · rw [q] at hp; exact hp
  rw [q, Bool.true_and] at hp
  refine m_isHeard hw H4 (by omega) ?_
  refine zc2 (fun q2 => ?_) (fun q2 => ?_)
  · rw [q2] at hp; exact hp
  rw [q2, Bool.true_and] at hp
  refine wc2 (nI_eq (by omega) (by omega)) (fun c => ?_) (fun c => ?_)
  · subst c
    rw [if_pos rfl] at hp
    rw [nI_add, Nat.zero_add]
    refine ⟨vp_in_nI (by omega) (by decide), ?_⟩
    rw [hw.rd (by omega) (by decide)]
    refine zs2 ?_ hp
    rw [nI_eq (by have := H.kd ha; omega) (by decide)]
    simp
  · rw [if_neg c] at hp
    rw [nI_add]
    refine ⟨vp_in_nI (by omega) (by decide), ?_⟩
    rw [hw.rd (by omega) (by decide)]
    refine m_has (by have := H.at_ ha; omega) (by omega) ?_
    refine zc (fun q3 => ?_) (fun q3 => ?_)
    · rw [q3] at hp; exact hp
    rw [q3, Bool.true_and] at hp
    refine m_lets hw H ha hb ?_
    exact zs3 (zI_0 _) hp
theorem ag.keep {n : Nat} {g : Nat → Int32} {f : Nat → Nat} (h : ag n g f) {k : Nat} (hk : n ≤ k) (v : Int32) : ag n (upd g k v) f := fun j hj => by
  rw [pk_un (by omega)]
  exact h j hj
theorem ag.succ {n : Nat} {g : Nat → Int32} {f : Nat → Nat} (h : ag n g f) (e : g n = nI (f n)) : ag (n + 1) g f := fun j hj => by
  rcases Nat.lt_or_ge j n with q | q
  · exact h j q
  · rw [show j = n by omega]; exact e
theorem ag.set {n : Nat} {g : Nat → Int32} {f : Nat → Nat} (h : ag n g f) (k v : Nat) : ag n (upd g k (nI v)) (upN f k v) := fun j hj => by
  unfold upd upN
  by_cases h1 : j = k
  · simp [h1]
  · simp [h1, h j hj]
theorem ag0 {g : Nat → Int32} {f : Nat → Nat} : ag 0 g f := fun j hj => absurd hj (Nat.not_lt_zero j)
theorem ag.le {n m : Nat} {g : Nat → Int32} {f : Nat → Nat} (h : ag n g f) (hm : m ≤ n) : ag m g f := fun j hj => h j (by omega)
/-- defeats of a by what stands below i -/
def dfp (h : Nat → Nat) (a i : Nat) : Nat := hit h a ||| ((if h 41 % 2 = 1 then rch (hit h) (lead h a) i else 0) ||| (if 1 < h 41 then rch (lead h) (hit h a) i else 0))
theorem dfp_0 (h : Nat → Nat) (a : Nat) : dfp h a 0 = hit h a := by unfold dfp rch; simp
theorem dfp_s (h : Nat → Nat) (a i : Nat) : dfp h a (i + 1) = (dfp h a i ||| (if h 41 % 2 = 1 ∧ (lead h a).testBit i = true then hit h i else 0)) ||| (if 1 < h 41 ∧ (hit h a).testBit i = true then lead h i else 0) := by
  apply Nat.eq_of_testBit_eq
  intro j
  unfold dfp
  simp only [rch, Nat.testBit_or]
  by_cases h1 : h 41 % 2 = 1 <;> by_cases h2 : 1 < h 41 <;> cases h3 : (lead h a).testBit i <;> cases h4 : (hit h a).testBit i <;> simp [h1, h2, Nat.testBit_or] <;> (try (cases (hit h a).testBit j <;> simp)) <;> (try (cases (hit h i).testBit j <;> simp)) <;> (try (cases (lead h i).testBit j <;> simp))
section RKN
variable {g : Nat → Int32} {h : Nat → Nat} {post : (Nat → Int32) → (Nat → Int32) → (Nat → Int32) → (Nat → Int32) → Prop}
theorem m_rk4 (H : hv h) (hp : ∀ g1 g2 g3 g4, ag 8 g1 (hit h) → ag 8 g2 (lead h) → ag 8 g3 (dft h) → ag 8 g4 (dfr h) → post g1 g2 g3 g4) {g1 g2 g3 g4 : Nat → Int32} (i1 : ag 8 g1 (hit h)) (i2 : ag 8 g2 (lead h)) (i3 : ag 8 g3 (dft h)) (i4 : ag 8 g4 (fun _ => 0)) : ∃ n, wp_X11_reckons_292 post g n (nI 0) g1 g2 g3 g4 := by
  refine loop_0 (fun n a v => wp_X11_reckons_292 post g n (nI a) g1 g2 g3 v) (fun a v => ag 8 v (fun c => trp (dft h) a 0 c)) 8 g4 ?_ ?_ ?_
  · exact i4.cg (fun j hj => (trp_z _ _).symm)
  · intro n v hv_
    show wp_X11_reckons_292 _ _ _ _ _ _ _ _
    unfold wp_X11_reckons_292
    exact wt (nI_le (Nat.le_refl _) (by decide)) (hp _ _ _ _ i1 i2 i3 (hv_.cg (fun j hj => trp_e _ _)))
  · intro n a v ha hv_ ih
    show wp_X11_reckons_292 _ _ _ _ _ _ _ _
    unfold wp_X11_reckons_292
    refine wf (nI_ge ha (by decide)) ?_
    refine loop_0 (fun n2 b v => wp_X11_reckons_300 post g (wp_X11_reckons_292 post g n) n2 (nI a) (nI b) g1 g2 g3 v) (fun b v => ag 8 v (fun c => trp (dft h) a b c)) 8 v hv_ ?_ ?_
    · intro n2 v hv2
      show wp_X11_reckons_300 _ _ _ _ _ _ _ _ _ _
      unfold wp_X11_reckons_300
      refine wt (nI_le (Nat.le_refl _) (by decide)) ?_
      rw [nS]
      exact ih _ (hv2.cg (fun j hj => trp_row _ _ hj))
    · intro n2 b v hb hv2 ih2
      show wp_X11_reckons_300 _ _ _ _ _ _ _ _ _ _
      unfold wp_X11_reckons_300
      refine wf (nI_ge hb (by decide)) ?_
      refine ⟨vp_in_nI hb (by decide), vp_in_nI ha (by decide), ?_⟩
      rw [i3.rd ha (by decide), nI_clamp (show b < 2 ^ 31 by omega), hv2 b hb, nS, shl_1 (by omega), nx_or, nx_or]
      have h256 := dft_r8 H a ha
      refine m_has (by omega) (by omega) ?_
      refine zc (fun hz => ?_) (fun hz => ?_)
      · refine ⟨vp_in_nI hb (by decide), ih2 _ ((hv2.set b _).cg (fun j hj => ?_))⟩
        rw [← trp_next ha hz j]
        unfold upN
        by_cases q : j = b
        · simp [q]
        · simp [q]
      · refine ⟨vp_in_nI hb (by decide), ih2 _ ((hv2.set b _).cg (fun j hj => ?_))⟩
        rw [← trp_next ha hz j]
        unfold upN
        by_cases q : j = b
        · simp [q]
        · simp [q]
theorem m_rk3 (hw : ag 43 g h) (H : hv h) (hp : ∀ g1 g2 g3 g4, ag 8 g1 (hit h) → ag 8 g2 (lead h) → ag 8 g3 (dft h) → ag 8 g4 (dfr h) → post g1 g2 g3 g4) {g1 g2 g3 g4 : Nat → Int32} (i1 : ag 8 g1 (hit h)) (i2 : ag 8 g2 (lead h)) : ∃ n, wp_X11_reckons_157 post g n (nI 0) g1 g2 g3 g4 := by
  have hm := H.2.1
  refine lo2 (fun n a v w => wp_X11_reckons_157 post g n (nI a) g1 g2 v w) (fun a v w => ag a v (dft h) ∧ ag a w (fun _ => 0)) 8 g3 g4 ⟨ag0, ag0⟩ ?_ ?_
  · intro n v w hI
    show wp_X11_reckons_157 _ _ _ _ _ _ _ _
    unfold wp_X11_reckons_157
    exact wt (nI_le (Nat.le_refl _) (by decide)) (m_rk4 H hp i1 i2 hI.1 hI.2)
  · intro n a v w ha hI ih
    show wp_X11_reckons_157 _ _ _ _ _ _ _ _
    unfold wp_X11_reckons_157
    refine wf (nI_ge ha (by decide)) ?_
    have va : vp_in (nI a) 8 := vp_in_nI ha (by decide)
    refine ⟨va, va, va, ?_⟩
    rw [i1.rd ha (by decide), nI_clamp (show a < 2 ^ 31 by omega)]
    refine loop_0 (fun n2 b v => wp_X11_reckons_184 post g (wp_X11_reckons_157 post g n) n2 (nI a) (nI b) g1 g2 v (upd w a (nI 0))) (fun b v => ag a v (dft h) ∧ v a = nI (dfp h a b)) 8 _ ?_ ?_ ?_
    · exact ⟨hI.1.keep (Nat.le_refl _) _, by rw [pk_us, dfp_0]⟩
    · intro n2 v hv2
      show wp_X11_reckons_184 _ _ _ _ _ _ _ _ _ _
      unfold wp_X11_reckons_184
      refine wt (nI_le (Nat.le_refl _) (by decide)) ?_
      rw [nS]
      exact ih _ _ ⟨hv2.1.succ hv2.2, (hI.2.keep (Nat.le_refl _) _).succ pk_us⟩
    · intro n2 b v hb hv2 ih2
      show wp_X11_reckons_184 _ _ _ _ _ _ _ _ _ _
      unfold wp_X11_reckons_184
      have vb : vp_in (nI b) 8 := vp_in_nI hb (by decide)
      refine wf (nI_ge hb (by decide)) ?_
      refine ⟨va, vp_in_nI (by decide) (by decide), ?_⟩
      have r41 : g (nI 41).toNatClampNeg = nI (h 41) := hw.rd (by decide) (by decide)
      have hl := lead_r8 H a ha
      have hh := hit_r8 h a ha
      -- the rest of it, behind what is lent
      have e233 : ∀ x : Nat, x = (if h 41 % 2 = 1 ∧ (lead h a).testBit b = true then hit h b else 0) → wp_X11_reckons_233 post g (wp_X11_reckons_157 post g n) (wp_X11_reckons_184 post g (wp_X11_reckons_157 post g n) n2) (nI a) (nI b) g1 g2 v (upd w a (nI 0)) (nI x) (v (nI a).toNatClampNeg) (nI a) := by
        intro x hx
        unfold wp_X11_reckons_233
        refine ⟨va, va, vp_in_nI (by decide) (by decide), ?_⟩
        rw [r41, nI_clamp (show a < 2 ^ 31 by omega), hv2.2, nx_or, nS, pk_us, nx_or]
        have fin : ∀ y : Nat, y = (if 1 < h 41 ∧ (hit h a).testBit b = true then lead h b else 0) → ag a (upd (upd v a (nI (dfp h a b ||| x))) a (nI (dfp h a b ||| x ||| y))) (dft h) ∧ (upd (upd v a (nI (dfp h a b ||| x))) a (nI (dfp h a b ||| x ||| y))) a = nI (dfp h a (b + 1)) := by
          intro y hy
          exact ⟨(hv2.1.keep (Nat.le_refl _) _).keep (Nat.le_refl _) _, by rw [pk_us, dfp_s, ← hx, ← hy]⟩
        refine wc (nI_leI (by omega) (by decide)) (fun c => ⟨va, ih2 _ (fin 0 (by rw [if_neg (by omega)]))⟩) (fun c => ⟨va, ?_⟩)
        rw [i1 a ha]
        refine m_has (by omega) (by omega) ?_
        refine zc (fun hz => ⟨va, ih2 _ (fin 0 (by rw [if_neg (by rw [hz]; simp)]))⟩) (fun hz => ⟨vb, va, ?_⟩)
        rw [i2.rd hb (by decide), nx_or]
        exact ih2 _ (fin _ (by rw [if_pos ⟨by omega, hz⟩]))
      rw [r41, pk_rem (by omega) (by decide) (by decide)]
      refine wc2 (nI_eq (by omega) (by decide)) (fun c => ⟨va, ?_⟩) (fun c => e233 0 (by rw [if_neg (fun q => c q.1)]))
      rw [i2.rd ha (by decide)]
      refine m_has (by omega) (by omega) ?_
      refine zc (fun hz => e233 0 (by rw [if_neg (by rw [hz]; simp)])) (fun hz => ⟨vb, ?_⟩)
      rw [i1.rd hb (by decide)]
      exact e233 _ (by rw [if_pos ⟨c, hz⟩])
theorem m_rk2 (hw : ag 43 g h) (H : hv h) (hp : ∀ g1 g2 g3 g4, ag 8 g1 (hit h) → ag 8 g2 (lead h) → ag 8 g3 (dft h) → ag 8 g4 (dfr h) → post g1 g2 g3 g4) {g1 g2 g3 g4 : Nat → Int32} (i1 : ag 8 g1 (hit h)) (i2 : ag 8 g2 (lead0 h)) : ∃ n, wp_X11_reckons_97 post g n (nI 0) g1 g2 g3 g4 := by
  refine loop_0 (fun n b v => wp_X11_reckons_97 post g n (nI b) g1 v g3 g4) (fun b v => ag 8 v (clo (lead0 h) b)) 8 g2 i2 ?_ ?_
  · intro n v hv_
    show wp_X11_reckons_97 _ _ _ _ _ _ _ _
    unfold wp_X11_reckons_97
    exact wt (nI_le (Nat.le_refl _) (by decide)) (m_rk3 hw H hp i1 hv_)
  · intro n b v hb hv_ ih
    show wp_X11_reckons_97 _ _ _ _ _ _ _ _
    unfold wp_X11_reckons_97
    refine wf (nI_ge hb (by decide)) ?_
    have hr := clo_r8 (lead0_r8 H) b (by omega)
    have vb : vp_in (nI b) 8 := vp_in_nI hb (by decide)
    refine loop_0 (fun n2 a v => wp_X11_reckons_105 post g (wp_X11_reckons_97 post g n) n2 (nI b) (nI a) g1 v g3 g4) (fun a v => ag 8 v (cl1 (clo (lead0 h) b) b a)) 8 v hv_ ?_ ?_
    · intro n2 v hv2
      show wp_X11_reckons_105 _ _ _ _ _ _ _ _ _ _
      unfold wp_X11_reckons_105
      refine wt (nI_le (Nat.le_refl _) (by decide)) ?_
      rw [nS]
      exact ih _ hv2
    · intro n2 a v ha hv2 ih2
      show wp_X11_reckons_105 _ _ _ _ _ _ _ _ _ _
      unfold wp_X11_reckons_105
      have va : vp_in (nI a) 8 := vp_in_nI ha (by decide)
      have h8 := cl1_r8 hr hb a (by omega)
      have h8a := h8 a ha
      refine wf (nI_ge ha (by decide)) ?_
      refine ⟨va, va, ?_⟩
      rw [hv2.rd ha (by decide), nS, hv2.rd hb (by decide), nx_or, nx_or, nI_clamp (show a < 2 ^ 31 by omega)]
      refine m_has (by omega) (by omega) ?_
      refine zc (fun hz => ⟨va, ih2 _ ((hv2.set a _).cg (fun j hj => ?_))⟩) (fun hz => ⟨vb, va, ih2 _ ((hv2.set a _).cg (fun j hj => ?_))⟩)
      · rw [cl1, hz]
        unfold upN
        by_cases q : j = a
        · simp [q]
        · simp [q]
      · rw [cl1, hz]; simp
theorem m_reckons (hw : ag 43 g h) (H : hv h) {g1 g2 g3 g4 : Nat → Int32} (hp : ∀ g1 g2 g3 g4, ag 8 g1 (hit h) → ag 8 g2 (lead h) → ag 8 g3 (dft h) → ag 8 g4 (dfr h) → post g1 g2 g3 g4) : wp_X11_reckons post g g1 g2 g3 g4 := by
  have H4 := H.heard
  unfold wp_X11_reckons
  refine lo2 (fun n a v w => wp_X11_reckons_2 post g n (nI a) v w g3 g4) (fun a v w => ag a v (hit h) ∧ ag a w (lead0 h)) 8 g1 g2 ⟨ag0, ag0⟩ ?_ ?_
  · intro n v w hI
    show wp_X11_reckons_2 _ _ _ _ _ _ _ _
    unfold wp_X11_reckons_2
    exact wt (nI_le (Nat.le_refl _) (by decide)) (m_rk2 hw H hp hI.1 hI.2)
  · intro n a v w ha hI ih
    show wp_X11_reckons_2 _ _ _ _ _ _ _ _
    unfold wp_X11_reckons_2
    refine wf (nI_ge ha (by decide)) ?_
    have va : vp_in (nI a) 8 := vp_in_nI ha (by decide)
    refine ⟨va, ?_⟩
    have e52 : ∀ x : Nat, x = lead0 h a → ∃ n2, wp_X11_reckons_52 post g (wp_X11_reckons_2 post g n) n2 (nI a) (nI 0) (upd v (nI a).toNatClampNeg (nI 0)) (upd w (nI a).toNatClampNeg (nI x)) g3 g4 := by
      intro x hx
      rw [nI_clamp (show a < 2 ^ 31 by omega)]
      refine loop_0 (fun n2 b v => wp_X11_reckons_52 post g (wp_X11_reckons_2 post g n) n2 (nI a) (nI b) v (upd w a (nI x)) g3 g4) (fun b v => ag a v (hit h) ∧ v a = nI (bs (hitB h a) b)) 8 _ ?_ ?_ ?_
      · exact ⟨hI.1.keep (Nat.le_refl _) _, pk_us⟩
      · intro n2 v hv2
        show wp_X11_reckons_52 _ _ _ _ _ _ _ _ _ _
        unfold wp_X11_reckons_52
        refine wt (nI_le (Nat.le_refl _) (by decide)) ?_
        rw [nS]
        exact ih _ _ ⟨hv2.1.succ hv2.2, (hI.2.keep (Nat.le_refl _) _).succ (by rw [pk_us, hx])⟩
      · intro n2 b v hb hv2 ih2
        show wp_X11_reckons_52 _ _ _ _ _ _ _ _ _ _
        unfold wp_X11_reckons_52
        refine wf (nI_ge hb (by decide)) ⟨va, ?_⟩
        rw [nI_clamp (show a < 2 ^ 31 by omega), hv2.2, nS, shl_1 (by omega), nx_or, nx_or]
        refine m_hits hw H ha hb ?_
        refine zc (fun hz => ⟨va, ih2 _ ⟨hv2.1.keep (Nat.le_refl _) _, ?_⟩⟩) (fun hz => ⟨va, ih2 _ ⟨hv2.1.keep (Nat.le_refl _) _, ?_⟩⟩)
        · rw [pk_us, bs, hz]; rfl
        · rw [pk_us, bs, hz]; rfl
    refine m_isHeard hw H4 (by omega) ?_
    refine zc (fun hz => ⟨va, e52 0 (by unfold lead0; rw [hz]; rfl)⟩) (fun hz => ?_)
    rw [nI_add]
    refine ⟨vp_in_nI (by omega) (by decide), vp_in_nI (by decide) (by decide), va, ?_⟩
    rw [hw.rd (by omega) (by decide), hw.rd (by decide) (by decide), nx_and]
    exact e52 _ (by unfold lead0; rw [hz]; rfl)
end RKN
