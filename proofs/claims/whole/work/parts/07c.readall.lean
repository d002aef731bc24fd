/-! the reference reads all -/
section RAL
variable {L : Nat → Nat} {n : Nat} {g : Nat → Int32} {h : Nat → Nat}
theorem m_nextStatement (hn : n ≤ 96) (hg : ag n g L) (hL : ∀ k, k < n → L k < 256) {a p : Nat} (hap : a ≤ p) (hp : p < n) (h59 : L p = 59) (hno : ∀ i, a ≤ i → i < p → ¬ L i = 59) {post : Int32 → Prop} (hq : post (nI (p + 1))) : wp_X11_nextStatement post g (nI a) := by
  unfold wp_X11_nextStatement
  refine loop_0 (fun m j (_ : Unit) => wp_X11_nextStatement_2 post g (nI a) m (nI (a + j))) (fun j _ => True) (p - a) () trivial ?_ ?_
  · rintro m _ _
    show wp_X11_nextStatement_2 _ _ _ _ _
    unfold wp_X11_nextStatement_2
    rw [show a + (p - a) = p by omega, nS p, nI_clamp (show p < 2 ^ 31 by omega), hg p hp]
    exact ⟨vp_in_nI (by omega) (by decide), wt (by rw [h59]) hq⟩
  · rintro m j _ hj _ ih
    show wp_X11_nextStatement_2 _ _ _ _ _
    unfold wp_X11_nextStatement_2
    have lj := hL (a + j) (by omega)
    rw [nS (a + j), nI_clamp (show a + j < 2 ^ 31 by omega), hg (a + j) (by omega)]
    refine ⟨vp_in_nI (by omega) (by decide), wf (fun k => hno (a + j) (by omega) (by omega) ((nI_eq (by omega) (by decide)).mp k)) ?_⟩
    exact ih () trivial
theorem semi_ex (W : wfL L n) {a : Nat} (ha : a < n) : ∃ p, (a ≤ p ∧ p < n ∧ L p = 59) ∧ ∀ i, a ≤ i → i < p → ¬ L i = 59 := by
  have e : L (n - 1) = 59 := by
    by_cases q : L (n - 1) = 59
    · exact q
    · have := ax_n0 (s := sa L (n - 1)) q
      rw [← sa_s, show n - 1 + 1 = n by omega, W.2.1] at this
      exact absurd rfl this
  obtain ⟨p, p1, p2⟩ := pk_least (fun k => a ≤ k ∧ k < n ∧ L k = 59) ⟨n - 1, by omega, by omega, e⟩
  exact ⟨p, p1, fun i h1 h2 q => p2 i h2 ⟨h1, by omega, q⟩⟩
theorem fs_skips {a : Nat} : ∀ j, (∀ i, a ≤ i → i < a + j → ¬ L i = 59) → fs L h (a + j) = fs L h a
  | 0, _ => rfl
  | j + 1, q => by
    show fs L h (a + j + 1) = _
    rw [fs_skip (q (a + j) (by omega) (by omega)), fs_skips j (fun i h1 h2 => q i h1 (by omega))]
theorem m_readsAll (hn : n ≤ 96) (hg : ag n g L) (hL : ∀ k, k < n → L k < 256) (H : hv h) {gw gla : Nat → Int32} (hw : ag 43 gw h) {rd wl : Int32} {post : Int32 → (Nat → Int32) → (Nat → Int32) → Int32 → Int32 → Prop} (hp : ∀ gw, ag 43 gw (rdH L n h) → ∀ gla rd wl, post (rdA L n h) gw gla rd wl) : wp_X11_readsAll post gw gla g (nI n) rd wl := by
  unfold rdA rdH at hp
  refine m_phase1 hn hg hL (fun r b rd wl => ?_) (fun b gla hgla rd => ?_)
  · rw [b] at hp
    exact hp gw hw gla rd wl
  · rw [b] at hp
    have W := bdp_wf b
    have hla : ag 43 gla h := fun j hj => by rw [hgla j hj]; exact hw j hj
    have cl := cnt_le (fun i => decide (L i = 59)) n
    refine loop_m (fun N (s : Nat × (Nat → Int32)) => wp_X11_readsAll_66 post g (nI n) N (nI (cn L n)) (nI s.1) s.2 gla rd (nI 1)) (fun s => s.1 ≤ n ∧ ((fs L h s.1).2.1 = s.1 ∧ (fs L h s.1).2.2 = true) ∧ ag 43 s.2 (fs L h s.1).1) (fun s => n - s.1) ?_ (0, gw) ⟨Nat.zero_le _, ⟨rfl, rfl⟩, hw⟩
    rintro N ⟨a, gw⟩ ⟨l1, ⟨l2, l3⟩, l4⟩ ih
    show wp_X11_readsAll_66 _ _ _ _ _ _ _ _ _ _
    unfold wp_X11_readsAll_66
    have k1 : a ≤ n := l1
    have k2 : (fs L h a).2.1 = a := l2
    have k3 : (fs L h a).2.2 = true := l3
    have k4 : ag 43 gw (fs L h a).1 := l4
    refine wc (nI_leI (by omega) (show a < 2 ^ 31 by omega)) (fun q => ?_) (fun q => ?_)
    · have q' : n ≤ a := q
      have e : a = n := by omega
      subst e
      simp only [k3, if_true] at hp
      exact hp gw k4 gla rd _
    · have q' : ¬ n ≤ a := q
      obtain ⟨p, ⟨p1, p2, p3⟩, p4⟩ := semi_ex W (show a < n by omega)
      have I := fs_inv W H a k1 k3
      rw [k2] at I
      have S := shape W I.1.2.1 p1 p2 p3 p4
      have sk := fs_skips (L := L) (h := h) (a := a) (p - a) (fun i h1 h2 => p4 i h1 (by omega))
      rw [show a + (p - a) = p by omega] at sk
      refine m_does hn hg hL k4 I.2 S p2 p3 (fun h' ef gw' q2 => ?_) (fun ef gw' => ?_)
      · have f := fs_some (L := L) (h := h) (i := p) (x := h') (by rw [sk]; exact k3) p3 (by rw [sk, k2]; exact ef)
        refine wf2 n1_0 ?_
        refine m_nextStatement hn hg hL p1 p2 p3 p4 ?_
        refine ih (p + 1, gw') ⟨show p + 1 ≤ n by omega, ⟨?_, ?_⟩, ?_⟩ (show n - (p + 1) < n - a by omega)
        · show (fs L h (p + 1)).2.1 = p + 1; rw [f]
        · show (fs L h (p + 1)).2.2 = true; rw [f]
        · show ag 43 gw' (fs L h (p + 1)).1; rw [f]; exact q2
      · have f := fs_no (L := L) (h := h) (i := p) (by rw [sk]; exact k3) p3 (by rw [sk, k2]; exact ef)
        have f2 := fs_dead (show (fs L h (p + 1)).2.2 = false by rw [f]) (n - (p + 1))
        rw [show p + 1 + (n - (p + 1)) = n by omega, f, sk, k2] at f2
        refine wt2 rfl (m_forgets (fun gw2 e2 => ?_))
        rw [f2] at hp
        exact hp gw2 (fun j hj => by rw [e2 j hj]; exact hla j hj) gla rd _
end RAL
