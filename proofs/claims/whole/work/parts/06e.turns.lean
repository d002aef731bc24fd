/-! counting places -/
def pc (s : Nat) : Nat → Nat
  | 0 => 0
  | n + 1 => pc s n + (s.testBit n).toNat
theorem pc_le (s n : Nat) : pc s n ≤ n := by
  induction n with
  | zero => exact Nat.le_refl _
  | succ n ih => unfold pc; have := Bool.toNat_le (s.testBit n); omega
theorem pc_lt {s n c : Nat} (hc : c < n) (hb : s.testBit c = false) : pc s n < n := by
  induction n with
  | zero => omega
  | succ n ih =>
    unfold pc
    by_cases h : c = n
    · subst h; rw [hb]; have := pc_le s c; simp; omega
    · have := ih (by omega); have := Bool.toNat_le (s.testBit n); omega
theorem pc_congr {s t n : Nat} (h : ∀ i, i < n → s.testBit i = t.testBit i) : pc s n = pc t n := by
  induction n with
  | zero => rfl
  | succ n ih => unfold pc; rw [ih (fun i hi => h i (by omega)), h n (by omega)]
theorem pc_add {s n c : Nat} (hc : c < n) (hb : s.testBit c = false) : pc (s ||| 2 ^ c) n = pc s n + 1 := by
  induction n with
  | zero => omega
  | succ n ih =>
    unfold pc
    rw [Nat.testBit_or, tb_pw]
    by_cases h : c = n
    · subst h
      rw [hb, pc_congr (s := s ||| 2 ^ c) (t := s) (fun i hi => by rw [Nat.testBit_or, tb_pw, decide_eq_false (show ¬ c = i by omega)]; simp)]
      simp
    · rw [ih (by omega), decide_eq_false h]
      simp; omega
theorem pc_z (n : Nat) : pc 0 n = 0 := by
  induction n with
  | zero => rfl
  | succ n ih => unfold pc; rw [ih, Nat.zero_testBit]; rfl
/-! which comes IN next -/
def mayIn (h : Nat → Nat) (ins outs c : Nat) : Bool := hd h c && (!(ins ||| outs).testBit c && decide (dif (dfr h c) outs = 0))
def nxp (h : Nat → Nat) (ins outs : Nat) : Nat → Option Nat
  | 0 => none
  | c + 1 => if mayIn h ins outs c && (match nxp h ins outs c with | none => true | some f => decide (h (8 + f) < h (8 + c))) then some c else nxp h ins outs c
def enc : Option Nat → Int32
  | none => -1
  | some c => nI c
theorem nxp_in {h : Nat → Nat} {ins outs : Nat} : ∀ {c f : Nat}, nxp h ins outs c = some f → f < c ∧ mayIn h ins outs f = true
  | 0, _, e => by cases e
  | c + 1, f, e => by
    rw [nxp] at e
    by_cases q : (mayIn h ins outs c && (match nxp h ins outs c with | none => true | some f => decide (h (8 + f) < h (8 + c)))) = true
    · rw [if_pos q] at e
      rw [Bool.and_eq_true] at q
      cases e
      exact ⟨Nat.lt_succ_self _, q.1⟩
    · rw [if_neg q] at e
      have := nxp_in e
      exact ⟨by omega, this.2⟩
theorem enc_lt0 {o : Option Nat} (ho : ∀ f, o = some f → f < 8) : enc o < 0 ↔ o = none := by
  cases o with
  | none => exact ⟨fun _ => rfl, fun _ => by decide +kernel⟩
  | some f => exact ⟨fun q => absurd q (nI_pos (by have := ho f rfl; omega)), fun q => by cases q⟩
theorem enc_ge0 {o : Option Nat} (ho : ∀ f, o = some f → f < 8) : 0 ≤ enc o ↔ ¬ o = none := by
  cases o with
  | none => exact ⟨fun q => absurd q (by decide +kernel), fun q => absurd rfl q⟩
  | some f => exact ⟨fun _ => Option.some_ne_none f, fun _ => nI_pos' (by have := ho f rfl; omega)⟩
theorem s_next {h : Nat → Nat} (H : hv h) {ins outs : Nat} (hi : ins < 256) (ho : outs < 256) {post : Int32 → Prop} (hp : post (enc (nxp h ins outs (h 42)))) : wp_X9_next post (nI ins) (nI outs) (nI (h 42)) (nI (h 40)) (pL (fun c => h (8 + c))) (pL (dfr h)) := by
  have h8 := H.1
  unfold wp_X9_next
  intro y hy
  rw [nx_dif H.heard, nx_dif (dif_lt H.heard _)] at hy
  subst hy
  have h2 : dif (dif (h 40) ins) outs < 256 := dif_lt (dif_lt H.heard _) _
  refine loop_0 (fun n c v => wp_X9_next_26 post (nI ins) (nI outs) (nI (h 42)) (nI (h 40)) (pL (fun c => h (8 + c))) (pL (dfr h)) n v (nI (dif (dif (h 40) ins) outs)) (nI c)) (fun c v => v = enc (nxp h ins outs c)) (h 42) _ rfl ?_ ?_
  · intro n v hv_
    subst hv_
    show wp_X9_next_26 _ _ _ _ _ _ _ _ _ _ _
    unfold wp_X9_next_26
    exact wt (nI_le (Nat.le_refl _) (by omega)) hp
  · intro n c v hc hv_ ih
    subst hv_
    show wp_X9_next_26 _ _ _ _ _ _ _ _ _ _ _
    unfold wp_X9_next_26
    refine wf (nI_ge hc (by omega)) ?_
    have hc8 : c < 8 := by omega
    have hpr : ∀ f, nxp h ins outs c = some f → f < 8 := fun f hf => by have := (nxp_in hf).1; omega
    have bt : (dif (dif (h 40) ins) outs).testBit c = (hd h c && !(ins ||| outs).testBit c) := by
      rw [dif_tb (dif_lt H.heard _), dif_tb H.heard, Nat.testBit_or]
      unfold hd
      cases (h 40).testBit c <;> cases ins.testBit c <;> cases outs.testBit c <;> rfl
    have e56 : ∀ z : Bool, (decide (dif (dfr h c) outs = 0)) = z → wp_X9_next_56 post (nI ins) (nI outs) (nI (h 42)) (nI (h 40)) (pL (fun c => h (8 + c))) (pL (dfr h)) (wp_X9_next_26 post (nI ins) (nI outs) (nI (h 42)) (nI (h 40)) (pL (fun c => h (8 + c))) (pL (dfr h)) n) (enc (nxp h ins outs c)) (nI (dif (dif (h 40) ins) outs)) (nI c) (zI z) := by
      intro z hz
      unfold wp_X9_next_56
      refine s_contains h2 hc8 ?_
      rw [bt, nS]
      have e1 : mayIn h ins outs c = ((hd h c && !(ins ||| outs).testBit c) && z) := by unfold mayIn; rw [hz, Bool.and_assoc]
      refine zc (fun q => ?_) (fun q => ?_)
      · refine ih _ ?_
        rw [nxp, e1, q]; simp
      · refine zc (fun q2 => ?_) (fun q2 => ?_)
        · refine ih _ ?_
          rw [nxp, e1, q, q2]; simp
        · have e2 : mayIn h ins outs c = true := by rw [e1, q, q2]; rfl
          refine wc (enc_lt0 hpr) (fun c1 => ?_) (fun c1 => ?_)
          · refine ih _ ?_
            rw [nxp, e2, c1]; rfl
          · cases ef : nxp h ins outs c with
            | none => exact absurd ef c1
            | some f =>
              have hf8 := hpr f ef
              refine s_figureOf H.r_fg hc8 ?_
              refine s_figureOf H.r_fg hf8 ?_
              have g1 := H.fg hc8
              have g2 := H.fg hf8
              refine wc (nI_leI (by omega) (by omega)) (fun c2 => ?_) (fun c2 => ?_)
              · refine ih _ ?_
                rw [nxp, e2, ef]; simp [Nat.not_lt.mpr c2]
              · refine ih _ ?_
                rw [nxp, e2, ef]; simp [Nat.not_le.mp c2, enc]
    refine s_get (dfr_r8 h) hc8 ?_
    rw [nx_dif (dfr_r8 h c hc8)]
    have h3 : dif (dfr h c) outs < 256 := dif_lt (dfr_r8 h c hc8) _
    exact wc2 (nI_eq0 (by omega)) (fun c1 => e56 true (decide_eq_true c1)) (fun c1 => e56 false (decide_eq_false c1))
theorem m_nextIn {g : Nat → Int32} {h : Nat → Nat} (hw : ag 43 g h) (H : hv h) {gd : Nat → Int32} (hgd : ag 8 gd (dfr h)) {ins outs : Nat} (hi : ins < 256) (ho : outs < 256) {post : Int32 → Prop} (hp : post (enc (nxp h ins outs (h 42)))) : wp_X11_nextIn post g gd (nI ins) (nI outs) := by
  have h8 := H.1
  unfold wp_X11_nextIn
  refine loop_0 (fun n c v => wp_X11_nextIn_4 post g gd (nI ins) (nI outs) n v (nI c)) (fun c v => v = enc (nxp h ins outs c)) (h 42) _ rfl ?_ ?_
  · intro n v hv_
    subst hv_
    show wp_X11_nextIn_4 _ _ _ _ _ _ _ _
    unfold wp_X11_nextIn_4
    refine ⟨vp_in_nI (by decide) (by decide), ?_⟩
    rw [hw.rd (by decide) (by decide)]
    exact wt (nI_le (Nat.le_refl _) (by omega)) hp
  · intro n c v hc hv_ ih
    subst hv_
    show wp_X11_nextIn_4 _ _ _ _ _ _ _ _
    unfold wp_X11_nextIn_4
    refine ⟨vp_in_nI (by decide) (by decide), ?_⟩
    rw [hw.rd (by decide) (by decide)]
    refine wf (nI_ge hc (by omega)) ?_
    have hc8 : c < 8 := by omega
    have hpr : ∀ f, nxp h ins outs c = some f → f < 8 := fun f hf => by have := (nxp_in hf).1; omega
    have e60 : ∀ z : Bool, mayIn h ins outs c = z → wp_X11_nextIn_60 post g gd (nI ins) (nI outs) (wp_X11_nextIn_4 post g gd (nI ins) (nI outs) n) (enc (nxp h ins outs c)) (nI c) (zI z) := by
      intro z hz
      unfold wp_X11_nextIn_60
      rw [nS, nI_add]
      refine zc (fun q => ?_) (fun q => ?_)
      · refine ih _ ?_
        rw [nxp, hz, q]; simp
      · have e2 : mayIn h ins outs c = true := by rw [hz, q]
        refine wc (enc_lt0 hpr) (fun c1 => ?_) (fun c1 => ?_)
        · refine ih _ ?_
          rw [nxp, e2, c1]; rfl
        · cases ef : nxp h ins outs c with
          | none => exact absurd ef c1
          | some f =>
            have hf8 := hpr f ef
            have g1 := H.fg hc8
            have g2 := H.fg hf8
            show vp_in _ _ ∧ _
            refine ⟨vp_in_nI (by omega) (by decide), ?_⟩
            show vp_in (nI 8 + nI f) _ ∧ _
            rw [show enc (some f) = nI f from rfl, nI_add]
            refine ⟨vp_in_nI (by omega) (by decide), ?_⟩
            rw [hw.rd (by omega) (by decide), hw.rd (by omega) (by decide)]
            refine wc (nI_leI (by omega) (by omega)) (fun c2 => ?_) (fun c2 => ?_)
            · refine ih _ ?_
              rw [nxp, e2, ef]; simp [Nat.not_lt.mpr c2, enc]
            · refine ih _ ?_
              rw [nxp, e2, ef]; simp [Nat.not_le.mp c2, enc]
    refine m_isHeard hw H.heard (by omega) ?_
    refine zc (fun q => e60 false (by unfold mayIn; rw [q]; rfl)) (fun q => ?_)
    rw [nx_or]
    refine m_has (by have := or_lt8 hi ho; omega) (by omega) ?_
    refine zc2 (fun q2 => ⟨vp_in_nI hc8 (by decide), ?_⟩) (fun q2 => e60 false (by unfold mayIn; rw [q, q2]; rfl))
    rw [hgd.rd hc8 (by decide), nx_dif (dfr_r8 h c hc8)]
    have h3 : dif (dfr h c) outs < 256 := dif_lt (dfr_r8 h c hc8) _
    exact wc2 (nI_eq0 (by omega)) (fun c1 => e60 true (by unfold mayIn; rw [q, q2, c1]; rfl)) (fun c1 => e60 false (by unfold mayIn; rw [q, q2, decide_eq_false c1]; rfl))
/-! all turns -/
def nx (h : Nat → Nat) (t : Nat × Nat) : Option Nat := nxp h t.1 t.2 (h 42)
def tr (h : Nat → Nat) : Nat → Nat × Nat
  | 0 => (0, 0)
  | k + 1 => match nx h (tr h k) with
    | none => tr h k
    | some c => ((tr h k).1 ||| 2 ^ c, (tr h k).2 ||| dft h c)
/-- how many are IN behind k turns, and the order -/
def tl (h : Nat → Nat) : Nat → Nat
  | 0 => 0
  | k + 1 => match nx h (tr h k) with
    | none => tl h k
    | some _ => tl h k + 1
def od (h : Nat → Nat) : Nat → (Nat → Nat)
  | 0 => fun _ => 0
  | k + 1 => match nx h (tr h k) with
    | none => od h k
    | some c => upN (od h k) (tl h k) c
theorem nx_lt {h : Nat → Nat} {t : Nat × Nat} {c : Nat} (e : nx h t = some c) : c < h 42 := (nxp_in e).1
theorem tr_lt {h : Nat → Nat} (H : hv h) : ∀ k, (tr h k).1 < 256 ∧ (tr h k).2 < 256
  | 0 => show (0 : Nat) < 256 ∧ (0 : Nat) < 256 by decide
  | k + 1 => by
    have ih := tr_lt H k
    unfold tr
    cases e : nx h (tr h k) with
    | none => exact ih
    | some c =>
      have hc := nx_lt e
      have h8 := H.1
      exact ⟨or_lt8 ih.1 (pw_lt8 (by omega)), or_lt8 ih.2 (dft_r8 H c (by omega))⟩
theorem tr_stop {h : Nat → Nat} {k : Nat} (e : nx h (tr h k) = none) : ∀ j, tr h (k + j) = tr h k ∧ tl h (k + j) = tl h k ∧ od h (k + j) = od h k
  | 0 => ⟨rfl, rfl, rfl⟩
  | j + 1 => by
    obtain ⟨h1, h2, h3⟩ := tr_stop e j
    have e2 : nx h (tr h (k + j)) = none := by rw [h1, e]
    refine ⟨?_, ?_, ?_⟩
    · show tr h (k + j + 1) = _; rw [tr, e2]; exact h1
    · show tl h (k + j + 1) = _; rw [tl, e2]; exact h2
    · show od h (k + j + 1) = _; rw [od, e2]; exact h3
theorem tr_back {h : Nat → Nat} {k : Nat} (e : ¬ nx h (tr h (k + 1)) = none) : ¬ nx h (tr h k) = none := fun q => e (by rw [(tr_stop q 1).1, q])
theorem tr_pc {h : Nat → Nat} (H : hv h) : ∀ k, ¬ nx h (tr h k) = none → pc (tr h k).1 (h 42) = k ∧ tl h k = k
  | 0, _ => ⟨pc_z _, rfl⟩
  | k + 1, e => by
    have e1 := tr_back e
    obtain ⟨h1, h2⟩ := tr_pc H k e1
    cases e2 : nx h (tr h k) with
    | none => exact absurd e2 e1
    | some c =>
      have hm := (nxp_in e2).2
      unfold mayIn at hm
      rw [Bool.and_eq_true, Bool.and_eq_true] at hm
      have hm2 := hm.2.1
      rw [Nat.testBit_or] at hm2
      have hb : (tr h k).1.testBit c = false := by
        cases q : (tr h k).1.testBit c
        · rfl
        · rw [q] at hm2; simp at hm2
      rw [tr, tl, e2]
      exact ⟨by rw [pc_add (nx_lt e2) hb, h1], by rw [h2]⟩
theorem tr_few {h : Nat → Nat} (H : hv h) {k : Nat} (e : ¬ nx h (tr h k) = none) : k < h 42 := by
  obtain ⟨h1, -⟩ := tr_pc H k e
  cases e2 : nx h (tr h k) with
  | none => exact absurd e2 e
  | some c =>
    have hm := (nxp_in e2).2
    unfold mayIn at hm
    rw [Bool.and_eq_true, Bool.and_eq_true] at hm
    have hm2 := hm.2.1
    rw [Nat.testBit_or] at hm2
    have hb : (tr h k).1.testBit c = false := by
      cases q : (tr h k).1.testBit c
      · rfl
      · rw [q] at hm2; simp at hm2
    have := pc_lt (nx_lt e2) hb
    omega
theorem tr_end {h : Nat → Nat} (H : hv h) : nx h (tr h (h 42)) = none := by
  by_cases q : nx h (tr h (h 42)) = none
  · exact q
  · exact absurd (tr_few H q) (Nat.lt_irrefl _)
theorem tl_le {h : Nat → Nat} : ∀ k, tl h k ≤ k
  | 0 => Nat.le_refl _
  | k + 1 => by
    have := tl_le (h := h) k
    unfold tl
    split <;> omega
theorem od_r8 {h : Nat → Nat} (H : hv h) : ∀ k, r8 (od h k)
  | 0 => fun _ _ => show (0 : Nat) < 256 by decide
  | k + 1 => by
    have ih := od_r8 H k
    unfold od
    split
    · exact ih
    · rename_i c e
      have := nx_lt e
      have h8 := H.1
      exact ih.up (by omega)
/-- IN and OUT at the end, how many, the order -/
def tI (h : Nat → Nat) : Nat := (tr h (h 42)).1
def tO (h : Nat → Nat) : Nat := (tr h (h 42)).2
def tN (h : Nat → Nat) : Nat := tl h (h 42)
def tS (h : Nat → Nat) : Nat → Nat := od h (h 42)
theorem tI_lt {h : Nat → Nat} (H : hv h) : tI h < 256 := (tr_lt H _).1
theorem tO_lt {h : Nat → Nat} (H : hv h) : tO h < 256 := (tr_lt H _).2
theorem tN_le {h : Nat → Nat} : tN h ≤ h 42 := tl_le _
theorem tr_at_end {h : Nat → Nat} (H : hv h) {k : Nat} (e : nx h (tr h k) = none) (hk : k ≤ h 42) : tr h k = (tI h, tO h) ∧ tl h k = tN h ∧ od h k = tS h := by
  have q := tr_stop e (h 42 - k)
  rw [show k + (h 42 - k) = h 42 by omega] at q
  exact ⟨q.1.symm, q.2.1.symm, q.2.2.symm⟩
theorem s_run {h : Nat → Nat} (H : hv h) {a1 a2 a3 : Int32} {a4 : Int64} {post : Int32 → Int32 → Int32 → Int64 → Prop} (hp : post (nI (tI h)) (nI (tO h)) (nI (tN h)) (pL (tS h))) : wp_X9_run post a1 a2 a3 a4 (nI (h 42)) (nI (h 40)) (pL (fun c => h (8 + c))) (pL (dft h)) (pL (dfr h)) := by
  have h8 := H.1
  unfold wp_X9_run
  rw [pL_z]
  refine lo4 (fun n i v1 v2 v3 v4 => wp_X9_run_22 post (nI (h 42)) (nI (h 40)) (pL (fun c => h (8 + c))) (pL (dft h)) (pL (dfr h)) n (nI i) v1 v2 v3 v4) (fun i v1 v2 v3 v4 => v1 = nI (tr h i).1 ∧ v2 = nI (tr h i).2 ∧ v3 = nI (tl h i) ∧ v4 = pL (od h i)) (h 42) _ _ _ _ ⟨rfl, rfl, rfl, rfl⟩ ?_ ?_
  · rintro n v1 v2 v3 v4 ⟨rfl, rfl, rfl, rfl⟩
    show wp_X9_run_22 _ _ _ _ _ _ _ _ _ _ _ _
    unfold wp_X9_run_22
    exact wt (nI_le (Nat.le_refl _) (by omega)) hp
  · rintro n i v1 v2 v3 v4 hi ⟨rfl, rfl, rfl, rfl⟩ ih
    show wp_X9_run_22 _ _ _ _ _ _ _ _ _ _ _ _
    unfold wp_X9_run_22
    refine wf (nI_ge hi (by omega)) ?_
    obtain ⟨l1, l2⟩ := tr_lt H i
    refine s_next H l1 l2 ?_
    have hpr : ∀ f, nxp h (tr h i).1 (tr h i).2 (h 42) = some f → f < 8 := fun f hf => by have := (nxp_in hf).1; omega
    refine wc (enc_ge0 hpr) (fun c => ?_) (fun c => ?_)
    · cases e : nxp h (tr h i).1 (tr h i).2 (h 42) with
      | none => exact absurd e c
      | some f =>
        have hf := hpr f e
        have e' : nx h (tr h i) = some f := e
        refine s_get (dft_r8 H) hf ?_
        have htl : tl h i < 8 := by have := tl_le (h := h) i; omega
        show wp_X0_with _ _ _ (nI f)
        refine s_with htl (by omega) ?_
        rw [show enc (some f) = nI f from rfl, shl_1 (by omega), nx_or, nx_or, nS, nS]
        refine ih _ _ _ _ ⟨?_, ?_, ?_, ?_⟩
        · rw [tr, e']
        · rw [tr, e']
        · rw [tl, e']
        · rw [od, e']
    · have c : nx h (tr h i) = none := Classical.not_not.mp c
      obtain ⟨q1, q2, q3⟩ := tr_at_end H c (by omega)
      rw [q1, q2, q3]
      exact hp
theorem m_turnsAll {g : Nat → Int32} {h : Nat → Nat} (hw : ag 43 g h) (H : hv h) {g1 g2 g3 g4 : Nat → Int32} {i1 i2 : Int32} {go : Nat → Int32} {i3 : Int32} {post : (Nat → Int32) → (Nat → Int32) → (Nat → Int32) → (Nat → Int32) → Int32 → Int32 → (Nat → Int32) → Int32 → Prop} (hp : ∀ g1 g2 g3 g4 go, ag 8 g1 (hit h) → ag 8 g2 (lead h) → ag 8 g3 (dft h) → ag 8 g4 (dfr h) → ag (tN h) go (tS h) → post g1 g2 g3 g4 (nI (tI h)) (nI (tO h)) go (nI (tN h))) : wp_X11_turnsAll post g g1 g2 g3 g4 i1 i2 go i3 := by
  have h8 := H.1
  unfold wp_X11_turnsAll
  refine m_reckons hw H (fun g1 g2 g3 g4 r1 r2 r3 r4 => ?_)
  refine m_nextIn hw H r4 (by decide) (by decide) ?_
  -- from turn k on
  have key : ∀ m k, h 42 - k = m → k ≤ h 42 → (∀ j, j < k → ¬ nx h (tr h j) = none) → ∀ go, ag k go (od h k) → ∃ n, wp_X11_turnsAll_24 post g n (enc (nx h (tr h k))) g1 g2 g3 g4 (nI (tr h k).1) (nI (tr h k).2) go (nI k) := by
    intro m
    induction m with
    | zero =>
      intro k hm hk hall go hgo
      have : k = h 42 := by omega
      subst this
      refine ⟨1, ?_⟩
      unfold wp_X11_turnsAll_24
      rw [tr_end H]
      refine wt (by decide +kernel) ?_
      have e := tr_at_end H (tr_end H) (Nat.le_refl _)
      have etl : tl h (h 42) = h 42 := by
        cases hn : h 42 with
        | zero => rfl
        | succ q =>
          have := (tr_pc H q (hall q (by omega))).2
          have e3 := hall q (by omega)
          rw [tl]
          cases e4 : nx h (tr h q) with
          | none => exact absurd e4 e3
          | some c => show tl h q + 1 = q + 1; rw [this]
      rw [e.1]
      have := hp g1 g2 g3 g4 go r1 r2 r3 r4 (by rw [← e.2.2, ← e.2.1, etl]; exact hgo)
      rw [← e.2.1, etl] at this
      exact this
    | succ m ihm =>
      intro k hm hk hall go hgo
      cases e : nx h (tr h k) with
      | none =>
        refine ⟨1, ?_⟩
        unfold wp_X11_turnsAll_24
        refine wt (by decide +kernel) ?_
        have q := tr_at_end H e hk
        have etl : tl h k = k := by
          cases hn : k with
          | zero => rfl
          | succ z =>
            subst hn
            have h3 := hall z (by omega)
            have h4 := (tr_pc H z h3).2
            rw [tl]
            cases e4 : nx h (tr h z) with
            | none => exact absurd e4 h3
            | some c => show tl h z + 1 = z + 1; rw [h4]
        rw [q.1]
        have := hp g1 g2 g3 g4 go r1 r2 r3 r4 (by rw [← q.2.2, ← q.2.1, etl]; exact hgo)
        rw [← q.2.1, etl] at this
        exact this
      | some c =>
        have hc := nx_lt e
        have e0 : ¬ nx h (tr h k) = none := by rw [e]; intro z; cases z
        have hk2 := tr_few H e0
        have etl := (tr_pc H k e0).2
        have hall2 : ∀ j, j < k + 1 → ¬ nx h (tr h j) = none := fun j hj => by
          rcases Nat.lt_or_ge j k with q | q
          · exact hall j q
          · rw [show j = k by omega]; exact e0
        have et : tr h (k + 1) = ((tr h k).1 ||| 2 ^ c, (tr h k).2 ||| dft h c) := by rw [tr, e]
        obtain ⟨n, hn⟩ := ihm (k + 1) (by omega) (by omega) hall2 (upd go k (nI c)) (by
          intro j hj
          rw [od, e]
          show upd go k (nI c) j = nI (upN (od h k) (tl h k) c j)
          rw [etl]
          unfold upd upN
          by_cases q : j = k
          · simp [q]
          · simp [q, hgo j (by omega)])
        refine ⟨n + 1, ?_⟩
        unfold wp_X11_turnsAll_24
        rw [show enc (some c) = nI c from rfl]
        refine wf (nI_pos (by omega)) ?_
        refine ⟨vp_in_nI (by omega) (by decide), vp_in_nI (by omega) (by decide), ?_⟩
        rw [r3.rd (by omega) (by decide), shl_1 (by omega), nx_or, nx_or, nS, nI_clamp (show k < 2 ^ 31 by omega)]
        obtain ⟨l1, l2⟩ := tr_lt H (k + 1)
        rw [et] at l1 l2
        refine m_nextIn hw H r4 l1 l2 ?_
        rw [et] at hn
        exact hn
  obtain ⟨n, hn⟩ := key (h 42) 0 (by omega) (by omega) (fun j hj => absurd hj (Nat.not_lt_zero _)) go ag0
  exact ⟨n, hn⟩
/-! labels -/
def lab (h : Nat → Nat) (c : Nat) : Nat := if hd h c then (if (tI h).testBit c then 1 else if (tO h).testBit c then 0 else 2) else 3
theorem s_knows {n : Nat} {x : Int32} (hn : n < 2 ^ 31) {post : Int32 → Prop} (ht : ∀ c, c < n → x = nI c → post (nI 1)) (hf : (¬ ∃ c, c < n ∧ x = nI c) → post (nI 0)) : wp_X3_knows post (nI n) x := by
  unfold wp_X3_knows
  refine ⟨fun c => hf ?_, fun c => ⟨fun c2 => hf ?_, fun c2 => ?_⟩⟩
  · rintro ⟨k, hk, rfl⟩
    exact nI_pos (by omega) c
  · rintro ⟨k, hk, rfl⟩
    exact nI_ge hk hn c2
  · rcases pk_ix x hn with q | q | ⟨j, hj, e⟩
    · exact absurd q c
    · exact absurd q c2
    · exact ht j hj e
theorem s_knowsN {n c : Nat} (hn : n < 2 ^ 31) (hc : c < n) {post : Int32 → Prop} (hp : post (nI 1)) : wp_X3_knows post (nI n) (nI c) := s_knows hn (fun _ _ _ => hp) (fun q => absurd ⟨c, hc, rfl⟩ q)
theorem s_hears {h : Nat → Nat} (H : hv h) {c : Nat} (hc : c < h 42) {post : Int32 → Prop} (hp : post (zI (hd h c))) : wp_X3_hears post (nI (h 42)) (nI (h 40)) (nI c) := by
  have h8 := H.1
  unfold wp_X3_hears
  refine s_knowsN (by omega) hc ?_
  refine wf (by decide +kernel) ?_
  refine s_contains H.heard (by omega) ?_
  exact zs3 (zI_0 _) hp
theorem s_labelOf {h : Nat → Nat} (H : hv h) {c : Nat} (hc : c < h 42) {post : Int32 → Prop} (hp : post (nI (lab h c))) : wp_X9_labelOf post (nI (tI h)) (nI (tO h)) (nI (h 42)) (nI (h 40)) (nI c) := by
  have h8 := H.1
  unfold wp_X9_labelOf
  unfold lab at hp
  refine s_hears H hc ?_
  refine zc2 (fun q => ?_) (fun q => ?_)
  · rw [q] at hp; exact hp
  rw [q, if_pos rfl] at hp
  refine s_contains (tI_lt H) (by omega) ?_
  refine zc (fun q2 => ?_) (fun q2 => ?_)
  · rw [q2, if_neg (by decide)] at hp
    refine s_contains (tO_lt H) (by omega) ?_
    refine zc (fun q3 => ?_) (fun q3 => ?_)
    · rw [q3] at hp; exact hp
    · rw [q3] at hp; exact hp
  · rw [q2] at hp; exact hp
theorem m_labelOf {g : Nat → Int32} {h : Nat → Nat} (hw : ag 43 g h) (H : hv h) {c : Nat} (hc : c < 8) {post : Int32 → Prop} (hp : post (nI (lab h c))) : wp_X11_labelOf post g (nI (tI h)) (nI (tO h)) (nI c) := by
  have l1 := tI_lt H
  have l2 := tO_lt H
  unfold wp_X11_labelOf
  unfold lab at hp
  refine m_isHeard hw H.heard (by omega) ?_
  refine zc2 (fun q => ?_) (fun q => ?_)
  · rw [q] at hp; exact hp
  rw [q, if_pos rfl] at hp
  refine m_has (by omega) (by omega) ?_
  refine zc (fun q2 => ?_) (fun q2 => ?_)
  · rw [q2, if_neg (by decide)] at hp
    refine m_has (by omega) (by omega) ?_
    refine zc (fun q3 => ?_) (fun q3 => ?_)
    · rw [q3] at hp; exact hp
    · rw [q3] at hp; exact hp
  · rw [q2] at hp; exact hp
theorem s_tAt {h : Nat → Nat} (H : hv h) {x : Int32} {post : Int32 → Prop} (ht : ∀ c, c < tN h → x = nI c → post (nI (tS h c))) (hf : (¬ ∃ c, c < tN h ∧ x = nI c) → post (-9)) : wp_X9_at post (nI (tN h)) (pL (tS h)) x := by
  have h8 := H.1
  have hn := tN_le (h := h)
  unfold wp_X9_at
  refine ⟨fun c => hf ?_, fun c => ⟨fun c2 => hf ?_, fun c2 => ?_⟩⟩
  · rintro ⟨k, hk, rfl⟩
    exact nI_pos (by omega) c
  · rintro ⟨k, hk, rfl⟩
    exact nI_ge hk (by omega) c2
  · rcases pk_ix x (show tN h < 2 ^ 31 by omega) with q | q | ⟨j, hj, e⟩
    · exact absurd q c
    · exact absurd q c2
    · subst e
      exact s_get (od_r8 H _) (by omega) (ht j hj rfl)
