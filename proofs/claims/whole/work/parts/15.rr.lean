/-! the relation inside a run -/
def rn_aI : Nat → Int32
  | 0 => -1
  | s + 1 => nI s
theorem rn_succ : ∀ p : Nat, rn_aI p + 1 = rn_aI (p + 1)
  | 0 => by decide
  | s + 1 => nI_1 s
theorem rn_pred : ∀ s : Nat, nI s - 1 = rn_aI s
  | 0 => by decide
  | s + 1 => nI_pred s
theorem rn_m1 : ∀ s : Nat, nI s + (-1) = rn_aI s
  | 0 => by decide
  | s + 1 => pk_m1 s
def rn_sm (f : Nat → Nat) : Nat → Nat
  | 0 => 0
  | n + 1 => rn_sm f n + f n
theorem rn_sm_eq (f g : Nat → Nat) : ∀ n : Nat, (∀ t, t < n → g t = f t) → rn_sm g n = rn_sm f n
  | 0, _ => rfl
  | n + 1, h => by
    simp only [rn_sm]
    rw [rn_sm_eq f g n (fun t ht => h t (by omega)), h n (by omega)]
theorem rn_sm_up (f g : Nat → Nat) (i : Nat) (h1 : g i = f i + 1) (h2 : ∀ t, t ≠ i → g t = f t) : ∀ n : Nat, i < n → rn_sm g n = rn_sm f n + 1
  | 0, h => absurd h (by omega)
  | n + 1, h => by
    simp only [rn_sm]
    by_cases e : i = n
    · subst e
      rw [h1, rn_sm_eq f g i (fun t ht => h2 t (by omega))]; omega
    · rw [rn_sm_up f g i h1 h2 n (by omega), h2 n (by omega)]; omega
theorem rn_sm_le (f : Nat → Nat) (c : Nat) : ∀ n : Nat, (∀ t, t < n → f t ≤ c) → rn_sm f n ≤ n * c
  | 0, _ => by simp [rn_sm]
  | n + 1, h => by
    simp only [rn_sm]
    have := rn_sm_le f c n (fun t ht => h t (by omega))
    have := h n (by omega)
    rw [Nat.succ_mul]; omega
def rn_ph (sg p : Nat) : Nat := if sg = 0 then 10 - p else if sg = 1 then 0 else 11 + p
def rn_P (S : Nat) (g b : Nat → Nat) (sg p : Nat) : Nat := 60 * (rn_sm g (S + 1) + rn_sm b S) + rn_ph sg p
def rn_sl (a : Nat → Int32) (w t : Nat) : Nat → Int32 := fun i => if i < w then a (w * t + i) else 0
theorem rn_sl_eq {a a' : Nat → Int32} {w s t : Nat} (h : ∀ i, (i < w * s ∨ w * s + w ≤ i) → a' i = a i) (ht : t ≠ s) : rn_sl a' w t = rn_sl a w t := by
  funext i
  unfold rn_sl
  split
  · rename_i hi
    apply h
    rcases Nat.lt_or_gt_of_ne ht with h1 | h1
    · left
      have : w * (t + 1) ≤ w * s := Nat.mul_le_mul_left w h1
      rw [Nat.mul_succ] at this; omega
    · right
      have : w * (s + 1) ≤ w * t := Nat.mul_le_mul_left w h1
      rw [Nat.mul_succ] at this; omega
  · rfl
theorem rn_sl_at {a : Nat → Int32} {w t i : Nat} (h : i < w) : rn_sl a w t i = a (w * t + i) := if_pos h
def rn_cl (k : Nat) : Prop := k = 9 ∨ k = 14 ∨ k = 15 ∨ k = 16
def rn_bb (b : Nat) (xb yb : Int32) : Prop := xb = yb ∧ ((b = 0 ∧ xb = 0) ∨ (b = 1 ∧ xb = 1))
def dd_T (k : Nat) (nu : Int32) (len P g1 r b : Nat) (xb xc xl xn : Int32) (xh xk : Nat → Int32) (yf yl yp yb yn : Int32) (yh yk : Nat → Int32) : Prop :=
  match k with
  | 2 => xc = yf
  | 3 => ∃ j : Nat, j ≤ P ∧ yf = nI j ∧ (nu < 1 → xc = 0) ∧ (∀ m : Nat, m < 2 ^ 31 → nu = nI m → xc = nI (min j m))
  | 5 => xb = yb
  | 6 => xc = yf ∧ (¬ xc = 0 → xl = yl)
  | 7 => xc = yf ∧ (¬ xc = 0 → xl = yl)
  | 8 => ∃ n : Nat, n ≤ g1 ∧ xn = nI n ∧ yn = nI n ∧ ∀ i, i < n → xh i = yk i
  | 9 => rn_bb b xb yb ∧ ∃ j : Nat, j ≤ P ∧ yp = nI j ∧ (b = 0 → j = 0) ∧ (b = 1 → xc = nI (min j len))
  | 10 => ∃ j : Nat, j ≤ P ∧ yp = nI j ∧ xc = nI (min j len)
  | 11 => xb = yb ∧ ∃ i : Nat, i ≤ len ∧ xc = nI i ∧ (¬ xb = 0 → xl = yl ∧ yp = nI i)
  | 12 => xb = yb ∧ (xb = 0 ∨ xb = 1) ∧ (¬ xb = 0 → xl = yl)
  | 13 => xb = yb ∧ (xb = 0 ∨ xb = 1) ∧ (¬ xb = 0 → xl = yl)
  | 14 => rn_bb b xb yb ∧ ∃ j : Nat, r + j ≤ 150 ∧ xn = nI (r + j) ∧ yn = nI (r + j) ∧ yp = nI j ∧ (b = 0 → j = 0) ∧ (b = 1 → xc = nI j) ∧ (ls_l (fun i => (xk (j + i), xh (j + i))) r).reverse = ls_st (ls_l (fun i => (yk (j + i), yh (j + i))) r)
  | 15 => rn_bb b xb yb ∧ ∃ j : Nat, r + j ≤ 150 ∧ xn = nI (r + j) ∧ yn = nI (r + j) ∧ (b = 0 → j = 0) ∧ (b = 1 → xc = nI j ∧ yp = rn_aI r) ∧ ∀ i, i < r + j → xh i = yh i
  | 16 => rn_bb b xb yb ∧ ∃ j : Nat, r + j ≤ 150 ∧ xn = nI (r + j) ∧ yn = nI (r + j) ∧ yp = nI j ∧ (b = 0 → j = 0) ∧ (b = 1 → xc = nI j) ∧ ∀ i, i < r + j → xh i = yh i ∧ xk i = yk i
  | _ => True
theorem dd_mono {k : Nat} {nu : Int32} {len P g1 r b : Nat} {xb xc xl xn : Int32} {xh xk : Nat → Int32} {yf yl yp yb yn : Int32} {yh yk : Nat → Int32} (hk : k ≤ 16) {P' : Nat} (hP : P ≤ P') (h : dd_T k nu len P g1 r b xb xc xl xn xh xk yf yl yp yb yn yh yk) : dd_T k nu len P' g1 r b xb xc xl xn xh xk yf yl yp yb yn yh yk := by
  rcases st_17 hk with rfl | rfl | rfl | rfl | rfl | rfl | rfl | rfl | rfl | rfl | rfl | rfl | rfl | rfl | rfl | rfl | rfl
  all_goals first
    | exact h
    | (obtain ⟨j, a, c⟩ := h; exact ⟨j, by omega, c⟩)
    | (obtain ⟨d, j, a, c⟩ := h; exact ⟨d, j, by omega, c⟩)
def rn_zl (le nu : Nat → Int32) (s : Nat) : Nat := (le (nu s).toNatClampNeg).toNatClampNeg
def fr_F (s : Nat) (bg ct ls hd hk hc lf la pc yb yh yk ho bg' ct' ls' hd' hk' hc' lf' la' pc' yb' yh' yk' ho' : Nat → Int32) : Prop :=
  (∀ t, t ≠ s → bg' t = bg t ∧ ct' t = ct t ∧ ls' t = ls t ∧ hc' t = hc t ∧ lf' t = lf t ∧ la' t = la t ∧ pc' t = pc t ∧ yb' t = yb t ∧ ho' t = ho t) ∧
  (∀ i, (i < 150 * s ∨ 150 * s + 150 ≤ i) → hd' i = hd i ∧ hk' i = hk i) ∧ (∀ i, (i < 160 * s ∨ 160 * s + 160 ≤ i) → yh' i = yh i ∧ yk' i = yk i)
def dd_S (le kd nu : Nat → Int32) (P : Nat) (g r b : Nat → Nat) (bg ct ls hd hk hc lf la pc yb yh yk ho : Nat → Int32) (s : Nat) : Prop :=
  dd_T (kd s).toNatClampNeg (nu s) (rn_zl le nu s) P (g (s + 1)) (r s) (b s) (bg s) (ct s) (ls s) (hc s) (rn_sl hd 150 s) (rn_sl hk 150 s) (lf s) (la s) (pc s) (yb s) (ho s) (rn_sl yh 160 s) (rn_sl yk 160 s)
def dd_D (S L m : Nat) (le kd nu : Nat → Int32) (g e r b : Nat → Nat) (sg p q : Nat) (sn ya : Int32) (bg ct ls hd hk hc lf la pc yb yh yk ho : Nat → Int32) : Prop :=
  q ≤ L ∧ (∃ j : Nat, j ≤ rn_P S g b sg p ∧ ya = nI j ∧ sn = nI (min j (le m).toNatClampNeg)) ∧
  (∀ s, s < S → dd_S le kd nu (rn_P S g b sg p) g r b bg ct ls hd hk hc lf la pc yb yh yk ho s) ∧
  (∀ t, t ≤ S → g t + e t ≤ q) ∧ (∀ s, s < S → e s + r s ≤ e (s + 1)) ∧ (∀ s, s < S → p = s + 1 → sg = 1 → e s + 1 + r s ≤ e (s + 1)) ∧
  (∀ s, s < S → (p < s + 1 ∨ (p = s + 1 ∧ sg ≠ 0)) → rn_cl (kd s).toNatClampNeg → b s = 0) ∧ (∀ s, b s ≤ 1)
theorem dd_bound {S L m : Nat} {le kd nu : Nat → Int32} {g e r b : Nat → Nat} {sg p q : Nat} {sn ya : Int32} {bg ct ls hd hk hc lf la pc yb yh yk ho : Nat → Int32} (hS : S ≤ 8) (hL : L ≤ 150) (hp : p ≤ S + 1) (h : dd_D S L m le kd nu g e r b sg p q sn ya bg ct ls hd hk hc lf la pc yb yh yk ho) : rn_P S g b sg p < 90000 := by
  obtain ⟨h1, _, _, h4, _, _, _, h8⟩ := h
  have a := rn_sm_le g 150 (S + 1) (fun t ht => by have := h4 t (by omega); omega)
  have c := rn_sm_le b 1 S (fun t _ => h8 t)
  have d : (S + 1) * 150 ≤ 9 * 150 := Nat.mul_le_mul_right _ (by omega)
  have : rn_ph sg p ≤ 20 := by
    unfold rn_ph
    split
    · omega
    · split <;> omega
  unfold rn_P
  omega
theorem dd_upd {S L m : Nat} {le kd nu : Nat → Int32} {g e r b g' e' r' b' : Nat → Nat} {sg p q sg' p' q' s : Nat} {sn ya : Int32} {bg ct ls hd hk hc lf la pc yb yh yk ho bg' ct' ls' hd' hk' hc' lf' la' pc' yb' yh' yk' ho' : Nat → Int32}
    (hkd : ∀ t, t < S → (kd t).toNatClampNeg ≤ 16) (h : dd_D S L m le kd nu g e r b sg p q sn ya bg ct ls hd hk hc lf la pc yb yh yk ho) (hP : rn_P S g b sg p ≤ rn_P S g' b' sg' p') (hF : fr_F s bg ct ls hd hk hc lf la pc yb yh yk ho bg' ct' ls' hd' hk' hc' lf' la' pc' yb' yh' yk' ho')
    (hg : ∀ t, t ≠ s → g' (t + 1) = g (t + 1)) (hr : ∀ t, t ≠ s → r' t = r t) (hb : ∀ t, t ≠ s → b' t = b t) (hT : dd_S le kd nu (rn_P S g' b' sg' p') g' r' b' bg' ct' ls' hd' hk' hc' lf' la' pc' yb' yh' yk' ho' s)
    (hq : q' ≤ L) (hA : ∀ t, t ≤ S → g' t + e' t ≤ q') (hB : ∀ s, s < S → e' s + r' s ≤ e' (s + 1)) (hB2 : ∀ s, s < S → p' = s + 1 → sg' = 1 → e' s + 1 + r' s ≤ e' (s + 1))
    (hW : ∀ s, s < S → (p' < s + 1 ∨ (p' = s + 1 ∧ sg' ≠ 0)) → rn_cl (kd s).toNatClampNeg → b' s = 0) (hb1 : ∀ s, b' s ≤ 1) : dd_D S L m le kd nu g' e' r' b' sg' p' q' sn ya bg' ct' ls' hd' hk' hc' lf' la' pc' yb' yh' yk' ho' := by
  obtain ⟨h1, ⟨j, h2a, h2b, h2c⟩, h3, h4, h5, h6, h7, h8⟩ := h
  refine ⟨hq, ⟨j, by omega, h2b, h2c⟩, fun t ht => ?_, hA, hB, hB2, hW, hb1⟩
  by_cases e : t = s
  · subst e; exact hT
  · obtain ⟨f1, f2, f3⟩ := hF
    obtain ⟨a1, a2, a3, a4, a5, a6, a7, a8, a9⟩ := f1 t e
    have := dd_mono (hkd t ht) hP (h3 t ht)
    unfold dd_S
    rw [hg t e, hr t e, hb t e, a1, a2, a3, a4, a5, a6, a7, a8, a9, rn_sl_eq (fun i hi => (f2 i hi).1) e, rn_sl_eq (fun i hi => (f2 i hi).2) e, rn_sl_eq (fun i hi => (f3 i hi).1) e, rn_sl_eq (fun i hi => (f3 i hi).2) e]
    exact this
section
variable (lm pn wp sr sc se fl sp pt sg el rs sn wy ya vv vt ot ra br : Int32) (en oc : Int64) (it le pe op kd nu co cl ap rd si bg ct ls hd hk hc vl tk cn lf la pc yb yh yk ho vs os : Nat → Int32)
/-- both sides have stopped, with one outcome -/
def ro_O (L S m : Nat) (u : SX) (v : SY) : Prop := ∃ (q : Nat) (oe : Int64) (fl pt sg el rs sn ya vv vt ot br : Int32) (ap rd bg ct ls hd hk hc lf la pc yb yh yk ho vl vs os : Nat → Int32), oe ≠ 0 ∧ u = (nI L, pn, wp, nI m, nI S, se, fl, nI q, oe, pt, sg, el, rs, sn, it, le, pe, op, kd, nu, co, cl, ap, rd, si, bg, ct, ls, hd, hk, hc, vl) ∧ v = (nI L, nI m, nI S, wy, nI q, ya, se, fl, vv, vt, ot, ra, br, oe, it, le, tk, cn, kd, nu, lf, la, pc, yb, yh, yk, ho, ap, rd, si, vs, os)
def rr_R (L S m : Nat) (sgn p P : Nat) (u : SX) (v : SY) : Prop := ∃ (q : Nat) (g e r b : Nat → Nat) (fl el rs sn ya vv vt ot br : Int32) (oc : Int64) (ap rd bg ct ls hd hk hc lf la pc yb yh yk ho vl vs os : Nat → Int32), u = (nI L, pn, wp, nI m, nI S, se, fl, nI q, 0, rn_aI p, nI sgn, el, rs, sn, it, le, pe, op, kd, nu, co, cl, ap, rd, si, bg, ct, ls, hd, hk, hc, vl) ∧ v = (nI L, nI m, nI S, wy, nI q, ya, se, fl, vv, vt, ot, ra, br, oc, it, le, tk, cn, kd, nu, lf, la, pc, yb, yh, yk, ho, ap, rd, si, vs, os) ∧
  (sgn = 1 → el = vv) ∧ P = rn_P S g b sgn p ∧ dd_D S L m le kd nu g e r b sgn p q sn ya bg ct ls hd hk hc lf la pc yb yh yk ho
def rr_N (L S m : Nat) (P p : Nat) (act : Int32) (u : SX) (v : SY) : Prop :=
  (act = 3 ∧ ro_O pn wp se wy ra it le pe op kd nu co cl si tk cn L S m u v) ∨ (∃ P' : Nat, P < P' ∧ ((act = 2 ∧ 1 ≤ p ∧ rr_R pn wp se wy ra it le pe op kd nu co cl si tk cn L S m 0 (p - 1) P' u v) ∨ (act = 1 ∧ rr_R pn wp se wy ra it le pe op kd nu co cl si tk cn L S m 1 (p + 1) P' u v) ∨ (act = 0 ∧ rr_R pn wp se wy ra it le pe op kd nu co cl si tk cn L S m 2 (p + 1) P' u v)))
end
