section
variable {lm pn wp sr sc se fl sp pt sg el rs sn wy ya vv vt ot ra br : Int32} {en oc : Int64} {it le pe op kd nu co cl ap rd si bg ct ls hd hk hc vl tk cn lf la pc yb yh yk ho vs os : Nat → Int32}
variable {bg' ct' ls' hd' hk' hc' lf' la' pc' yb' yh' yk' ho' : Nat → Int32} {S L m q q' s sgn k r1 : Nat} {g e r b : Nat → Nat}
theorem md_ask (hkd : ∀ t, t < S → (kd t).toNatClampNeg ≤ 16) (hS : S ≤ 8) (hs : s < S) (h : dd_D S L m le kd nu g e r b sgn (s + 1) q sn ya bg ct ls hd hk hc lf la pc yb yh yk ho) (hF : fr_F s bg ct ls hd hk hc lf la pc yb yh yk ho bg' ct' ls' hd' hk' hc' lf' la' pc' yb' yh' yk' ho') (hsg : sgn = 0 ∨ sgn = 1) (hr : r1 ≤ r s ∨ (sgn = 1 ∧ r1 ≤ r s + 1)) (hw : rn_cl k → b s = 0) (hq : q ≤ q') (hqL : q' ≤ L) (hk0 : (kd s).toNatClampNeg = k)
    (hT : ∀ P' : Nat, rn_P S g b sgn (s + 1) < P' → dd_T k (nu s) (rn_zl le nu s) P' (g (s + 1)) r1 (b s) (bg' s) (ct' s) (ls' s) (hc' s) (rn_sl hd' 150 s) (rn_sl hk' 150 s) (lf' s) (la' s) (pc' s) (yb' s) (ho' s) (rn_sl yh' 160 s) (rn_sl yk' 160 s)) :
    rr_N pn wp se wy ra it le pe op kd nu co cl si tk cn L S m (rn_P S g b sgn (s + 1)) (s + 1) 2 (nI L, pn, wp, nI m, nI S, se, fl, nI q', 0, rn_aI s, 0, el, rs, sn, it, le, pe, op, kd, nu, co, cl, ap, rd, si, bg', ct', ls', hd', hk', hc', vl) (nI L, nI m, nI S, wy, nI q', ya, se, fl, vv, vt, ot, ra, br, oc, it, le, tk, cn, kd, nu, lf', la', pc', yb', yh', yk', ho', ap, rd, si, vs, os) := by
  have hP : rn_P S g b sgn (s + 1) < rn_P S g b 0 s := by
    unfold rn_P rn_ph
    rcases hsg with rfl | rfl
    · simp <;> omega
    · simp <;> omega
  obtain ⟨h1, h2, h3, h4, h5, h6, h7, h8⟩ := id h
  refine Or.inr ⟨rn_P S g b 0 s, hP, Or.inl ⟨rfl, by omega, q', g, e, (fun t => if t = s then r1 else r t), b, fl, el, rs, sn, ya, vv, vt, ot, br, oc, ap, rd, bg', ct', ls', hd', hk', hc', lf', la', pc', yb', yh', yk', ho', vl, vs, os, rfl, rfl, fun z => absurd z (by decide), rfl, ?_⟩⟩
  refine dd_upd hkd h (Nat.le_of_lt hP) hF (fun t _ => rfl) (fun t ht => if_neg ht) (fun t _ => rfl) ?_ hqL (fun t ht => Nat.le_trans (h4 t ht) hq) ?_ (fun t _ _ z => absurd z (by decide)) ?_ h8
  · unfold dd_S
    try dsimp only
    rw [hk0, if_pos rfl]
    exact hT _ hP
  · intro t ht
    have a := h5 t ht
    by_cases et : t = s
    · subst et
      have c := h6 t ht rfl
      simp only [if_true]
      rcases hr with hr | ⟨z, hr⟩
      · omega
      · have := c z; omega
    · simp only [et, if_false]; exact a
  · intro t ht hp hc'
    by_cases et : t = s
    · subst et; rw [hk0] at hc'; exact hw hc'
    · refine h7 t ht (Or.inl ?_) hc'
      rcases hp with hp | ⟨hp, z⟩
      · omega
      · exact absurd rfl z
theorem md_give (x : Int32) (hkd : ∀ t, t < S → (kd t).toNatClampNeg ≤ 16) (hS : S ≤ 8) (hs : s < S) (h : dd_D S L m le kd nu g e r b sgn (s + 1) q sn ya bg ct ls hd hk hc lf la pc yb yh yk ho) (hF : fr_F s bg ct ls hd hk hc lf la pc yb yh yk ho bg' ct' ls' hd' hk' hc' lf' la' pc' yb' yh' yk' ho') (hsg : sgn = 0 ∨ sgn = 1) (hr : r1 + 1 ≤ r s ∨ (sgn = 1 ∧ r1 ≤ r s)) (hq : q ≤ q') (hqL : q' ≤ L) (hk0 : (kd s).toNatClampNeg = k)
    (hT : ∀ P' : Nat, rn_P S g b sgn (s + 1) < P' → dd_T k (nu s) (rn_zl le nu s) P' (g (s + 1) + 1) r1 (b s) (bg' s) (ct' s) (ls' s) (hc' s) (rn_sl hd' 150 s) (rn_sl hk' 150 s) (lf' s) (la' s) (pc' s) (yb' s) (ho' s) (rn_sl yh' 160 s) (rn_sl yk' 160 s)) :
    rr_N pn wp se wy ra it le pe op kd nu co cl si tk cn L S m (rn_P S g b sgn (s + 1)) (s + 1) 1 (nI L, pn, wp, nI m, nI S, se, fl, nI q', 0, nI (s + 1), 1, x, rs, sn, it, le, pe, op, kd, nu, co, cl, ap, rd, si, bg', ct', ls', hd', hk', hc', vl) (nI L, nI m, nI S, wy, nI q', ya, se, fl, x, vt, ot, ra, br, oc, it, le, tk, cn, kd, nu, lf', la', pc', yb', yh', yk', ho', ap, rd, si, vs, os) := by
  have hg := rn_sm_up g (fun t => if t = s + 1 then g t + 1 else g t) (s + 1) (if_pos rfl) (fun t ht => if_neg ht) (S + 1) (by omega)
  have hP : rn_P S g b sgn (s + 1) < rn_P S (fun t => if t = s + 1 then g t + 1 else g t) b 1 (s + 2) := by
    unfold rn_P rn_ph
    rw [hg]
    rcases hsg with rfl | rfl
    · simp <;> omega
    · simp <;> omega
  obtain ⟨h1, h2, h3, h4, h5, h6, h7, h8⟩ := id h
  have hes : e s + r1 + 1 ≤ e (s + 1) := by
    have a := h5 s hs
    have c := h6 s hs rfl
    rcases hr with hr | ⟨z, hr⟩
    · omega
    · have := c z; omega
  refine Or.inr ⟨_, hP, Or.inr (Or.inl ⟨rfl, q', (fun t => if t = s + 1 then g t + 1 else g t), (fun t => if t = s + 1 then e t - 1 else e t), (fun t => if t = s then r1 else r t), b, fl, x, rs, sn, ya, x, vt, ot, br, oc, ap, rd, bg', ct', ls', hd', hk', hc', lf', la', pc', yb', yh', yk', ho', vl, vs, os, rfl, rfl, fun _ => rfl, rfl, ?_⟩)⟩
  refine dd_upd hkd h (Nat.le_of_lt hP) hF (fun t ht => if_neg (by omega)) (fun t ht => if_neg ht) (fun t _ => rfl) ?_ hqL ?_ ?_ ?_ ?_ h8
  · unfold dd_S
    try dsimp only
    rw [hk0, if_pos rfl, if_pos rfl]
    exact hT _ hP
  · intro t ht
    have a := h4 t ht
    try dsimp only
    by_cases et : t = s + 1
    · rw [if_pos et, if_pos et]; subst et; omega
    · rw [if_neg et, if_neg et]; omega
  · intro t ht
    have a := h5 t ht
    try dsimp only
    by_cases et : t = s
    · subst et
      rw [if_neg (by omega), if_pos rfl, if_pos rfl]; omega
    · rw [if_neg et, if_neg (c := t + 1 = s + 1) (by omega)]
      by_cases e2 : t = s + 1
      · rw [if_pos e2]; omega
      · rw [if_neg e2]; exact a
  · intro t ht hp _
    have : t = s + 1 := by omega
    subst this
    have a := h5 (s + 1) ht
    try dsimp only
    rw [if_pos rfl, if_neg (by omega), if_neg (by omega)]
    omega
  · intro t ht hp hc'
    exact h7 t ht (Or.inl (by omega)) hc'
theorem md_pay (x : Int32) (hkd : ∀ t, t < S → (kd t).toNatClampNeg ≤ 16) (hS : S ≤ 8) (hs : s < S) (h : dd_D S L m le kd nu g e r b sgn (s + 1) q sn ya bg ct ls hd hk hc lf la pc yb yh yk ho) (hF : fr_F s bg ct ls hd hk hc lf la pc yb yh yk ho bg' ct' ls' hd' hk' hc' lf' la' pc' yb' yh' yk' ho') (hsg : sgn = 0 ∨ sgn = 1) (hr : r1 ≤ r s ∨ (sgn = 1 ∧ r1 ≤ r s + 1)) (hq : q + 1 ≤ q') (hqL : q' ≤ L) (hk0 : (kd s).toNatClampNeg = k)
    (hT : ∀ P' : Nat, rn_P S g b sgn (s + 1) < P' → dd_T k (nu s) (rn_zl le nu s) P' (g (s + 1) + 1) r1 (b s) (bg' s) (ct' s) (ls' s) (hc' s) (rn_sl hd' 150 s) (rn_sl hk' 150 s) (lf' s) (la' s) (pc' s) (yb' s) (ho' s) (rn_sl yh' 160 s) (rn_sl yk' 160 s)) :
    rr_N pn wp se wy ra it le pe op kd nu co cl si tk cn L S m (rn_P S g b sgn (s + 1)) (s + 1) 1 (nI L, pn, wp, nI m, nI S, se, fl, nI q', 0, nI (s + 1), 1, x, rs, sn, it, le, pe, op, kd, nu, co, cl, ap, rd, si, bg', ct', ls', hd', hk', hc', vl) (nI L, nI m, nI S, wy, nI q', ya, se, fl, x, vt, ot, ra, br, oc, it, le, tk, cn, kd, nu, lf', la', pc', yb', yh', yk', ho', ap, rd, si, vs, os) := by
  have hg := rn_sm_up g (fun t => if t = s + 1 then g t + 1 else g t) (s + 1) (if_pos rfl) (fun t ht => if_neg ht) (S + 1) (by omega)
  have hP : rn_P S g b sgn (s + 1) < rn_P S (fun t => if t = s + 1 then g t + 1 else g t) b 1 (s + 2) := by
    unfold rn_P rn_ph
    rw [hg]
    rcases hsg with rfl | rfl
    · simp <;> omega
    · simp <;> omega
  obtain ⟨h1, h2, h3, h4, h5, h6, h7, h8⟩ := id h
  have hes : e s + r1 ≤ e (s + 1) := by
    have a := h5 s hs
    have c := h6 s hs rfl
    rcases hr with hr | ⟨z, hr⟩
    · omega
    · have := c z; omega
  refine Or.inr ⟨_, hP, Or.inr (Or.inl ⟨rfl, q', (fun t => if t = s + 1 then g t + 1 else g t), (fun t => if s + 1 < t then e t + 1 else e t), (fun t => if t = s then r1 else r t), b, fl, x, rs, sn, ya, x, vt, ot, br, oc, ap, rd, bg', ct', ls', hd', hk', hc', lf', la', pc', yb', yh', yk', ho', vl, vs, os, rfl, rfl, fun _ => rfl, rfl, ?_⟩)⟩
  refine dd_upd hkd h (Nat.le_of_lt hP) hF (fun t ht => if_neg (by omega)) (fun t ht => if_neg ht) (fun t _ => rfl) ?_ hqL ?_ ?_ ?_ ?_ h8
  · unfold dd_S
    try dsimp only
    rw [hk0, if_pos rfl, if_pos rfl]
    exact hT _ hP
  · intro t ht
    have a := h4 t ht
    try dsimp only
    by_cases et : t = s + 1
    · rw [if_pos et, if_neg (by omega)]; omega
    · rw [if_neg et]
      split <;> omega
  · intro t ht
    have a := h5 t ht
    try dsimp only
    by_cases et : t = s
    · subst et
      rw [if_neg (by omega), if_pos rfl, if_neg (by omega)]; exact hes
    · rw [if_neg et]
      split
      · rw [if_pos (by omega)]; omega
      · split <;> omega
  · intro t ht hp _
    have : t = s + 1 := by omega
    subst this
    have a := h5 (s + 1) ht
    try dsimp only
    rw [if_neg (by omega), if_neg (by omega), if_pos (by omega)]
    omega
  · intro t ht hp hc'
    exact h7 t ht (Or.inl (by omega)) hc'
theorem md_end (hkd : ∀ t, t < S → (kd t).toNatClampNeg ≤ 16) (hS : S ≤ 8) (hs : s < S) (h : dd_D S L m le kd nu g e r b sgn (s + 1) q sn ya bg ct ls hd hk hc lf la pc yb yh yk ho) (hF : fr_F s bg ct ls hd hk hc lf la pc yb yh yk ho bg' ct' ls' hd' hk' hc' lf' la' pc' yb' yh' yk' ho') (hsg : sgn = 0 ∨ sgn = 1 ∨ sgn = 2) (hq : q ≤ q') (hqL : q' ≤ L) (hk0 : (kd s).toNatClampNeg = k)
    (hT : ∀ P' : Nat, rn_P S g b sgn (s + 1) < P' → dd_T k (nu s) (rn_zl le nu s) P' (g (s + 1)) (r s) (b s) (bg' s) (ct' s) (ls' s) (hc' s) (rn_sl hd' 150 s) (rn_sl hk' 150 s) (lf' s) (la' s) (pc' s) (yb' s) (ho' s) (rn_sl yh' 160 s) (rn_sl yk' 160 s)) :
    rr_N pn wp se wy ra it le pe op kd nu co cl si tk cn L S m (rn_P S g b sgn (s + 1)) (s + 1) 0 (nI L, pn, wp, nI m, nI S, se, fl, nI q', 0, nI (s + 1), 2, el, rs, sn, it, le, pe, op, kd, nu, co, cl, ap, rd, si, bg', ct', ls', hd', hk', hc', vl) (nI L, nI m, nI S, wy, nI q', ya, se, fl, vv, vt, ot, ra, br, oc, it, le, tk, cn, kd, nu, lf', la', pc', yb', yh', yk', ho', ap, rd, si, vs, os) := by
  have hP : rn_P S g b sgn (s + 1) < rn_P S g b 2 (s + 2) := by
    unfold rn_P rn_ph
    rcases hsg with rfl | rfl | rfl
    · simp <;> omega
    · simp <;> omega
    · simp
  obtain ⟨h1, h2, h3, h4, h5, h6, h7, h8⟩ := id h
  refine Or.inr ⟨_, hP, Or.inr (Or.inr ⟨rfl, q', g, e, r, b, fl, el, rs, sn, ya, vv, vt, ot, br, oc, ap, rd, bg', ct', ls', hd', hk', hc', lf', la', pc', yb', yh', yk', ho', vl, vs, os, rfl, rfl, fun z => absurd z (by decide), rfl, ?_⟩)⟩
  refine dd_upd hkd h (Nat.le_of_lt hP) hF (fun t _ => rfl) (fun t ht => rfl) (fun t _ => rfl) ?_ hqL (fun t ht => Nat.le_trans (h4 t ht) hq) h5 (fun t _ _ z => absurd z (by decide)) ?_ h8
  · unfold dd_S
    try dsimp only
    rw [hk0]
    exact hT _ hP
  · intro t ht hp hc'
    exact h7 t ht (Or.inl (by omega)) hc'
/-- the component's step before it asks the same stage again -/
theorem md_beg (hkd : ∀ t, t < S → (kd t).toNatClampNeg ≤ 16) (hS : S ≤ 8) (hs : s < S) (h : dd_D S L m le kd nu g e r b 2 (s + 1) q sn ya bg ct ls hd hk hc lf la pc yb yh yk ho) (hF : fr_F s bg ct ls hd hk hc lf la pc yb yh yk ho bg' ct' ls' hd' hk' hc' lf' la' pc' yb' yh' yk' ho') (hc1 : rn_cl k) (hk0 : (kd s).toNatClampNeg = k)
    (hT : ∀ P' : Nat, rn_P S g b 2 (s + 1) < P' → dd_T k (nu s) (rn_zl le nu s) P' (g (s + 1)) (r s) 1 (bg' s) (ct' s) (ls' s) (hc' s) (rn_sl hd' 150 s) (rn_sl hk' 150 s) (lf' s) (la' s) (pc' s) (yb' s) (ho' s) (rn_sl yh' 160 s) (rn_sl yk' 160 s)) :
    rn_P S g b 2 (s + 1) < rn_P S g (fun t => if t = s then 1 else b t) 0 (s + 1) ∧ dd_D S L m le kd nu g e r (fun t => if t = s then 1 else b t) 0 (s + 1) q sn ya bg' ct' ls' hd' hk' hc' lf' la' pc' yb' yh' yk' ho' := by
  obtain ⟨h1, h2, h3, h4, h5, h6, h7, h8⟩ := id h
  have hb0 : b s = 0 := h7 s hs (Or.inr ⟨rfl, by decide⟩) (by rw [hk0]; exact hc1)
  have hbs := rn_sm_up b (fun t => if t = s then 1 else b t) s (by rw [if_pos rfl, hb0]) (fun t ht => if_neg ht) S hs
  have hP : rn_P S g b 2 (s + 1) < rn_P S g (fun t => if t = s then 1 else b t) 0 (s + 1) := by
    unfold rn_P rn_ph
    rw [hbs]
    simp <;> omega
  refine ⟨hP, dd_upd hkd h (Nat.le_of_lt hP) hF (fun t _ => rfl) (fun t ht => rfl) (fun t ht => if_neg ht) ?_ h1 h4 h5 (fun t _ _ z => absurd z (by decide)) ?_ ?_⟩
  · unfold dd_S
    try dsimp only
    rw [hk0, if_pos rfl]
    exact hT _ hP
  · intro t ht hp hc'
    try dsimp only
    have : t ≠ s := by rcases hp with hp | ⟨_, z⟩; omega; exact absurd rfl z
    rw [if_neg this]
    refine h7 t ht (Or.inl ?_) hc'
    rcases hp with hp | ⟨_, z⟩
    · exact hp
    · exact absurd rfl z
  · intro t
    try dsimp only
    split
    · omega
    · exact h8 t
theorem md_beg1 (hkd : ∀ t, t < S → (kd t).toNatClampNeg ≤ 16) (hS : S ≤ 8) (hs : s < S) (h : dd_D S L m le kd nu g e r b 1 (s + 1) q sn ya bg ct ls hd hk hc lf la pc yb yh yk ho) (hF : fr_F s bg ct ls hd hk hc lf la pc yb yh yk ho bg' ct' ls' hd' hk' hc' lf' la' pc' yb' yh' yk' ho') (hk0 : (kd s).toNatClampNeg = k)
    (hT : ∀ P' : Nat, rn_P S g b 1 (s + 1) < P' → dd_T k (nu s) (rn_zl le nu s) P' (g (s + 1)) (r s) (b s) (bg' s) (ct' s) (ls' s) (hc' s) (rn_sl hd' 150 s) (rn_sl hk' 150 s) (lf' s) (la' s) (pc' s) (yb' s) (ho' s) (rn_sl yh' 160 s) (rn_sl yk' 160 s)) :
    rn_P S g b 1 (s + 1) < rn_P S g b 0 (s + 1) ∧ dd_D S L m le kd nu g e r b 0 (s + 1) q sn ya bg' ct' ls' hd' hk' hc' lf' la' pc' yb' yh' yk' ho' := by
  obtain ⟨h1, h2, h3, h4, h5, h6, h7, h8⟩ := id h
  have hP : rn_P S g b 1 (s + 1) < rn_P S g b 0 (s + 1) := by
    unfold rn_P rn_ph
    simp <;> omega
  refine ⟨hP, dd_upd hkd h (Nat.le_of_lt hP) hF (fun t _ => rfl) (fun t ht => rfl) (fun t ht => rfl) ?_ h1 h4 h5 (fun t _ _ z => absurd z (by decide)) ?_ h8⟩
  · unfold dd_S
    try dsimp only
    rw [hk0]
    exact hT _ hP
  · intro t ht hp hc'
    refine h7 t ht (Or.inl ?_) hc'
    rcases hp with hp | ⟨_, z⟩
    · exact hp
    · exact absurd rfl z
theorem md_out {P p : Nat} {oe : Int64} (h : oe ≠ 0) : rr_N pn wp se wy ra it le pe op kd nu co cl si tk cn L S m P p 3 (nI L, pn, wp, nI m, nI S, se, fl, nI q, oe, pt, sg, el, rs, sn, it, le, pe, op, kd, nu, co, cl, ap, rd, si, bg, ct, ls, hd, hk, hc, vl) (nI L, nI m, nI S, wy, nI q, ya, se, fl, vv, vt, ot, ra, br, oe, it, le, tk, cn, kd, nu, lf, la, pc, yb, yh, yk, ho, ap, rd, si, vs, os) :=
  Or.inl ⟨rfl, q, oe, fl, pt, sg, el, rs, sn, ya, vv, vt, ot, br, ap, rd, bg, ct, ls, hd, hk, hc, lf, la, pc, yb, yh, yk, ho, vl, vs, os, h, rfl, rfl⟩
theorem rr_Nm {P P' p : Nat} {act : Int32} {u : SX} {v : SY} (hP : P ≤ P') (h : rr_N pn wp se wy ra it le pe op kd nu co cl si tk cn L S m P' p act u v) : rr_N pn wp se wy ra it le pe op kd nu co cl si tk cn L S m P p act u v := by
  rcases h with h | ⟨P2, a, c⟩
  · exact Or.inl h
  · exact Or.inr ⟨P2, by omega, c⟩
end
