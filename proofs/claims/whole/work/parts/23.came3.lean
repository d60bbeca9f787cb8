section
variable {lm pn wp sr sc se fl sp pt sg el rs sn wy ya vv vt ot ra br : Int32} {en oc : Int64} {it le pe op kd nu co cl ap rd si bg ct ls hd hk hc vl tk cn lf la pc yb yh yk ho vs os : Nat → Int32}
variable {bg' ct' ls' hd' hk' hc' lf' la' pc' yb' yh' yk' ho' : Nat → Int32} {S L m q s sgn k : Nat} {g e r b : Nat → Nat} {x y : Int32}
/-- the component's insertion into its sorted list -/
theorem so_ins {B n : Nat} (hB : B + n < 1200) (key : Int32) (hd hk : Nat → Int32) :
    ∀ (c : Nat) (hd1 hk1 : Nat → Int32), c ≤ n → (∀ i, c ≤ i → i < n → hd1 (B + i + 1) = hd (B + i) ∧ hk1 (B + i + 1) = hk (B + i)) → (∀ a, (a < B + c ∨ B + n < a) → hd1 a = hd a ∧ hk1 a = hk a) → (∀ i, c ≤ i → i < n → key < hk (B + i)) →
    ∃ (p : Nat) (hd2 hk2 : Nat → Int32), p ≤ n ∧ hd2 (B + p) = y ∧ hk2 (B + p) = key ∧ (∀ i, i < p → hd2 (B + i) = hd (B + i) ∧ hk2 (B + i) = hk (B + i)) ∧ (∀ i, p ≤ i → i < n → hd2 (B + (i + 1)) = hd (B + i) ∧ hk2 (B + (i + 1)) = hk (B + i)) ∧ (∀ i, p ≤ i → i < n → key < hk (B + i)) ∧ (p = 0 ∨ ¬ key < hk (B + (p - 1))) ∧ (∀ a, (a < B ∨ B + n < a) → hd2 a = hd a ∧ hk2 a = hk a) ∧
      ∀ (post : SX → Prop) (nf : Nat), c < nf → post (lm, pn, wp, sr, sc, se, fl, sp, en, pt, sg, el, rs, sn, it, le, pe, op, kd, nu, co, cl, ap, rd, si, bg, ct, ls, hd2, hk2, hc, vl) → wX_holdSorted_27 post y key (nI B) lm pn wp sr sc se fl sp en pt sg el rs sn nf (nI (B + c)) it le pe op kd nu co cl ap rd si bg ct ls hd1 hk1 hc vl := by
  intro c
  induction c with
  | zero =>
    intro hd1 hk1 hc1 h1 h2 h3
    refine ⟨0, upd hd1 (B + 0) y, upd hk1 (B + 0) key, by omega, pk_us, pk_us, fun i hi => absurd hi (by omega), fun i hi1 hi2 => ?_, h3, Or.inl rfl, fun a ha => ?_, fun post nf hf hp => ?_⟩
    · rw [pk_un (by omega), pk_un (by omega)]; exact h1 i hi1 hi2
    · rw [pk_un (by omega), pk_un (by omega)]; exact h2 a (by omega)
    · obtain ⟨f, rfl⟩ : ∃ f, nf = f + 1 := ⟨nf - 1, by omega⟩
      have hin : vp_in (nI (B + 0)) 1200 := vp_in_nI (by omega) (by omega)
      exact br_t (Int32.le_refl _) ⟨hin, nm_r (by rw [nI_clamp (by omega)]) ⟨hin, nm_r (by rw [nI_clamp (by omega)]) hp⟩⟩
  | succ c IH =>
    intro hd1 hk1 hc1 h1 h2 h3
    have hin1 : vp_in (nI (B + (c + 1))) 1200 := vp_in_nI (by omega) (by omega)
    have e0 : nI (B + (c + 1)) - 1 = nI (B + c) := nI_pred (B + c)
    have hin0 : vp_in (nI (B + (c + 1)) - 1) 1200 := by rw [e0]; exact vp_in_nI (by omega) (by omega)
    have f0 : (nI (B + (c + 1)) - 1).toNatClampNeg = B + c := by rw [e0, nI_clamp (by omega)]
    have f1 : (nI (B + (c + 1))).toNatClampNeg = B + (c + 1) := nI_clamp (by omega)
    have hnle : ¬ nI (B + (c + 1)) ≤ nI B := nI_ge (by omega) (by omega)
    have hold := h2 (B + c) (by omega)
    by_cases hle : hk (B + c) ≤ key
    · refine ⟨c + 1, upd hd1 (B + (c + 1)) y, upd hk1 (B + (c + 1)) key, hc1, pk_us, pk_us, fun i hi => ?_, fun i hi1 hi2 => ?_, h3, Or.inr ?_, fun a ha => ?_, fun post nf hf hp => ?_⟩
      · rw [pk_un (by omega), pk_un (by omega)]; exact h2 _ (by omega)
      · rw [pk_un (by omega), pk_un (by omega)]; exact h1 i hi1 hi2
      · rw [show c + 1 - 1 = c from by omega]; exact Int32.not_lt.mpr hle
      · rw [pk_un (by omega), pk_un (by omega)]; exact h2 a (by omega)
      · obtain ⟨f, rfl⟩ : ∃ f, nf = f + 1 := ⟨nf - 1, by omega⟩
        exact br_f hnle ⟨hin0, br_t (by rw [f0, hold.2]; exact hle) ⟨hin1, nm_r (by rw [f1]) ⟨hin1, nm_r (by rw [f1]) hp⟩⟩⟩
    · have hgt : key < hk (B + c) := Int32.not_le.mp hle
      obtain ⟨p, hd2, hk2, g1, g2, g3, g4, g5, g6, g7, g8, g9⟩ := IH (upd hd1 (B + (c + 1)) (hd (B + c))) (upd hk1 (B + (c + 1)) (hk (B + c))) (by omega) (fun i hi1 hi2 => by
        by_cases ei : i = c
        · subst ei
          rw [show B + i + 1 = B + (i + 1) from by omega, pk_us, pk_us]; exact ⟨rfl, rfl⟩
        · rw [pk_un (by omega), pk_un (by omega)]; exact h1 i (by omega) hi2) (fun a ha => by
        rw [pk_un (by omega), pk_un (by omega)]; exact h2 a (by omega)) (fun i hi1 hi2 => by
        by_cases ei : i = c
        · subst ei; exact hgt
        · exact h3 i (by omega) hi2)
      refine ⟨p, hd2, hk2, g1, g2, g3, g4, g5, g6, g7, g8, fun post nf hf hp => ?_⟩
      obtain ⟨f, rfl⟩ : ∃ f, nf = f + 1 := ⟨nf - 1, by omega⟩
      exact br_f hnle ⟨hin0, br_f (by rw [f0, hold.2]; exact hle) ⟨hin0, hin1, nm_r (by rw [f0, f1, hold.1]) ⟨hin0, hin1, nm_r (by rw [f0, f1, hold.2]) (nm_r (pk_m1 (B + c)) (g9 post f (by omega) hp))⟩⟩⟩
theorem cm_14 (hkd : ∀ t, t < S → (kd t).toNatClampNeg ≤ 16) (hS : S ≤ 8) (hL : L ≤ 150) (hs : s < S) (hv : vp_in x 8) (hx : x.toNatClampNeg = s) (h : dd_D S L m le kd nu g e r b 1 (s + 1) q sn ya bg ct ls hd hk hc lf la pc yb yh yk ho) (hk0 : kd s = nI 14) (hE : rl_Ex co cl tk cn s) : ∃ (act : Int32) (u1 : SX) (v1 : SY), (∀ post : SX → Prop, post u1 → wpX_elementCame post (nI L, pn, wp, nI m, nI S, se, fl, nI q, 0, nI s, 1, y, rs, sn, it, le, pe, op, kd, nu, co, cl, ap, rd, si, bg, ct, ls, hd, hk, hc, vl) x y) ∧ (∀ post : Int32 → SY → Prop, post act v1 → wpY_came post (nI L, nI m, nI S, wy, nI q, ya, se, fl, y, vt, ot, ra, br, oc, it, le, tk, cn, kd, nu, lf, la, pc, yb, yh, yk, ho, ap, rd, si, vs, os) x) ∧ rr_N pn wp se wy ra it le pe op kd nu co cl si tk cn L S m (rn_P S g b 1 (s + 1)) (s + 1) act u1 v1 := by
  have hkc : (kd s).toNatClampNeg = 14 := by rw [hk0]; exact nI_clamp (by omega)
  have hk14 : kd s = 14 := hk0
  have hk15 : ¬ kd s = 15 := by rw [hk0]; decide
  have hk16 : ¬ kd s = 16 := by rw [hk0]; decide
  obtain ⟨hbb, j, hj, hhc, hho, hyp, hj0, _, hsort⟩ := dd_get h hs hk0 (by omega)
  have hb0 : b s = 0 := h.2.2.2.2.2.2.1 s hs (Or.inr ⟨rfl, by decide⟩) (by rw [hkc]; simp [rn_cl])
  have := hj0 hb0
  subst this
  have hn : r s < 150 := by
    have a := h.1
    have c := h.2.2.2.1 (s + 1) (by omega)
    have d := h.2.2.2.2.2.1 s hs rfl rfl
    omega
  have hs8 : s < 8 := by omega
  rw [Nat.add_zero] at hhc hho
  rcases rn_apx (pn := pn) (wp := wp) (se := se) (fl := fl) (rs := rs) (sn := sn) (it := it) (le := le) (pe := pe) (op := op) (kd := kd) (nu := nu) (co := co) (cl := cl) (ap := ap) (rd := rd) (si := si) (bg := bg) (ct := ct) (ls := ls) (hd := hd) (hk := hk) (hc := hc) (vl := vl) (wy := wy) (ya := ya) (vt := vt) (ot := ot) (ra := ra) (br := br) (oc := oc) (tk := tk) (cn := cn) (lf := lf) (la := la) (pc := pc) (yb := yb) (yh := yh) (yk := yk) (ho := ho) (vs := vs) (os := os) (sr := nI m) (sc := nI S) (en := 0) (pt := nI s) (sg := 1) (el := y) (vv := y) hL h.1 hv hx hE y 0 with ⟨oe, p', fl', vv', vt', ot', br', ap', vl', vs', os', w1, w2, w3⟩ | ⟨hq, v, vt', ot', br', vl', vs', os', w2, w3⟩
  · refine ⟨3, (nI L, pn, wp, nI m, nI S, se, fl', nI p', oe, nI s, 1, y, rs, sn, it, le, pe, op, kd, nu, co, cl, ap', rd, si, bg, ct, ls, hd, hk, hc, vl'), (nI L, nI m, nI S, wy, nI p', ya, se, fl', vv', vt', ot', ra, br', oe, it, le, tk, cn, kd, nu, lf, la, pc, yb, yh, yk, ho, ap', rd, si, vs', os'), fun post hp => ?_, fun post hp => ?_, md_out w1⟩
    · subst hx
      exact ⟨hv, nm_r hk0 (br_f (by decide) (br_f (by decide) (br_f (by decide) (br_f (by decide) (br_f (by decide) (br_f (by decide) (br_f (by decide) (br_f (by decide) (br_f (by decide) (br_f (by decide) (br_f (by decide) (br_f (by decide) (br_f (by decide) (br_f (by decide) (br_f (by decide) (br_f (by decide) (br_t rfl (⟨hv, br_f hk15 (w2 _ (br_t rfl hp))⟩))))))))))))))))))⟩
    · subst hx
      exact ⟨hv, nm_r hk0 (br_f (by decide) (br_t (by decide) (⟨hv, nm_r hk0 (br_f (by decide) (br_f (by decide) (br_f (by decide) (br_f (by decide) (br_t rfl (w3 _ (br_t rfl hp)))))))⟩)))⟩
  · obtain ⟨p, hd2, hk2, g1, g2, g3, g4, g5, g6, g7, g8, g9⟩ := so_ins (pn := pn) (wp := wp) (se := se) (fl := fl) (sn := sn) (it := it) (le := le) (pe := pe) (op := op) (kd := kd) (nu := nu) (co := co) (cl := cl) (rd := rd) (si := si) (bg := bg) (ct := ct) (ls := ls) (lm := nI L) (sr := nI m) (sc := nI S) (sp := nI (q + 1)) (en := 0) (pt := nI s) (sg := 1) (el := y) (rs := v) (ap := upd ap s (ap s + 1)) (vl := vl') (hc := upd hc s (nI (r s + 1))) (y := y) (B := 150 * s) (n := r s) (by omega) v hd hk (r s) (upd hd (150 * s + r s) y) (upd hk (150 * s + r s) v) (Nat.le_refl _) (fun i h1 h2 => absurd h2 (by omega)) (fun a ha => ⟨pk_un (by omega), pk_un (by omega)⟩) (fun i h1 h2 => absurd h2 (by omega))
    refine ⟨2, (nI L, pn, wp, nI m, nI S, se, fl, nI (q + 1), 0, rn_aI s, 0, y, v, sn, it, le, pe, op, kd, nu, co, cl, upd ap s (ap s + 1), rd, si, bg, ct, ls, hd2, hk2, upd hc s (nI (r s + 1)), vl'), (nI L, nI m, nI S, wy, nI (q + 1), ya, se, fl, v, vt', ot', ra, br', oc, it, le, tk, cn, kd, nu, lf, la, pc, yb, upd yh (160 * s + r s) y, upd yk (160 * s + r s) v, upd ho s (nI (r s + 1)), upd ap s (ap s + 1), rd, si, vs', os'), fun post hp => ?_, fun post hp => ?_, md_ask hkd hS hs h (k := 14) (r1 := r s + 1) ⟨fun t ht => by simp [pk_un ht], fun i hi => g8 i (by omega), fun i hi => ⟨pk_un (by omega), pk_un (by omega)⟩⟩ (Or.inr rfl) (Or.inr ⟨rfl, Nat.le_refl _⟩) (fun _ => hb0) (by omega) (by omega) hkc (fun P' hP => ?_)⟩
    · have hG : ∀ post : SX → Prop, post (nI L, pn, wp, nI m, nI S, se, fl, nI (q + 1), 0, nI s, 1, y, v, sn, it, le, pe, op, kd, nu, co, cl, upd ap s (ap s + 1), rd, si, bg, ct, ls, hd2, hk2, upd hc s (nI (r s + 1)), vl') → wpX_holdSorted post (nI L, pn, wp, nI m, nI S, se, fl, nI (q + 1), 0, nI s, 1, y, v, sn, it, le, pe, op, kd, nu, co, cl, upd ap s (ap s + 1), rd, si, bg, ct, ls, hd, hk, hc, vl') x y v := fun post hp => by
        unfold wpX_holdSorted
        refine xr_hold hv hx hn hhc v ?_
        have e1 : x * 150 = nI (150 * s) := by
          subst hx
          have := vx_150 hv 0
          rw [nI_0, Int32.add_zero, Nat.add_zero] at this
          exact this
        refine nm_r e1 ⟨hv, nm_r (e' := nI (150 * s + r s)) ?_ ⟨_, g9 post _ (Nat.lt_succ_self _) hp⟩⟩
        rw [hx, pk_us, nI_add, ← Nat.add_assoc, nI_pred]
      subst hx
      exact ⟨hv, nm_r hk0 (br_f (by decide) (br_f (by decide) (br_f (by decide) (br_f (by decide) (br_f (by decide) (br_f (by decide) (br_f (by decide) (br_f (by decide) (br_f (by decide) (br_f (by decide) (br_f (by decide) (br_f (by decide) (br_f (by decide) (br_f (by decide) (br_f (by decide) (br_f (by decide) (br_t rfl (⟨hv, br_f hk15 (w2 _ (br_f (by decide) ⟨hv, br_t hk14 (hG _ (xr_ask hp))⟩))⟩))))))))))))))))))⟩
    · have hG := fun (post : SY → Prop) hp => yr_hold (wy := wy) (ya := ya) (se := se) (fl := fl) (ra := ra) (oc := oc) (it := it) (le := le) (tk := tk) (cn := cn) (kd := kd) (nu := nu) (lf := lf) (la := la) (pc := pc) (yb := yb) (yh := yh) (yk := yk) (ho := ho) (rd := rd) (si := si) (lm := nI L) (sr := nI m) (sc := nI S) (sp := nI (q + 1)) (vv := v) (ap := upd ap s (ap s + 1)) (vt := vt') (ot := ot') (br := br') (vs := vs') (os := os') (post := post) (y := y) hv hx hn hho v hp
      subst hx
      exact ⟨hv, nm_r hk0 (br_f (by decide) (br_t (by decide) (⟨hv, nm_r hk0 (br_f (by decide) (br_f (by decide) (br_f (by decide) (br_f (by decide) (br_t rfl (w3 _ (br_f (by decide) ⟨hv, br_f hk16 (br_t (by decide) (hG _ hp))⟩)))))))⟩)))⟩
    · refine ⟨hbb, 0, by omega, pk_us, pk_us, hyp, fun _ => rfl, fun z => absurd z (by omega), ?_⟩
      have hY : ls_l (fun i => (rn_sl (upd yk (160 * s + r s) v) 160 s (0 + i), rn_sl (upd yh (160 * s + r s) y) 160 s (0 + i))) (r s + 1) = ls_l (fun i => (rn_sl yk 160 s (0 + i), rn_sl yh 160 s (0 + i))) (r s) ++ [(v, y)] := by
        rw [ls_add]
        congr 1
        · refine ls_congr _ _ _ (fun i hi => ?_)
          rw [rn_sl_at (by omega), rn_sl_at (by omega), rn_sl_at (by omega), rn_sl_at (by omega), pk_un (by omega), pk_un (by omega)]
        · simp only [ls_l]
          rw [rn_sl_at (by omega), rn_sl_at (by omega), show 160 * s + (0 + (r s + 0)) = 160 * s + r s from by omega, pk_us, pk_us]
      rw [hY, ls_st_snoc, ← hsort]
      refine ls_ins (fun i => (rn_sl hk 150 s (0 + i), rn_sl hd 150 s (0 + i))) _ (r s) p g1 (v, y) (fun i hi => ?_) ?_ (fun i hi1 hi2 => ?_) (fun i hi1 hi2 => ?_) ?_
      · have := g4 i hi
        rw [Nat.zero_add, rn_sl_at (by omega), rn_sl_at (by omega), rn_sl_at (by omega), rn_sl_at (by omega), this.1, this.2]
      · rw [Nat.zero_add, rn_sl_at (by omega), rn_sl_at (by omega), g2, g3]
      · have := g5 i hi1 hi2
        rw [Nat.zero_add, Nat.zero_add, rn_sl_at (by omega), rn_sl_at (by omega), rn_sl_at (by omega), rn_sl_at (by omega), this.1, this.2]
      · have := g6 i hi1 hi2
        dsimp only
        rw [Nat.zero_add, rn_sl_at (by omega)]; exact this
      · rcases g7 with g7 | g7
        · exact Or.inl g7
        · by_cases ep : p = 0
          · exact Or.inl ep
          · refine Or.inr ?_
            dsimp only
            rw [Nat.zero_add, rn_sl_at (by omega)]; exact g7
theorem cm_16 (hkd : ∀ t, t < S → (kd t).toNatClampNeg ≤ 16) (hS : S ≤ 8) (hL : L ≤ 150) (hs : s < S) (hv : vp_in x 8) (hx : x.toNatClampNeg = s) (h : dd_D S L m le kd nu g e r b 1 (s + 1) q sn ya bg ct ls hd hk hc lf la pc yb yh yk ho) (hk0 : kd s = nI 16) (hE : rl_Ex co cl tk cn s) : ∃ (act : Int32) (u1 : SX) (v1 : SY), (∀ post : SX → Prop, post u1 → wpX_elementCame post (nI L, pn, wp, nI m, nI S, se, fl, nI q, 0, nI s, 1, y, rs, sn, it, le, pe, op, kd, nu, co, cl, ap, rd, si, bg, ct, ls, hd, hk, hc, vl) x y) ∧ (∀ post : Int32 → SY → Prop, post act v1 → wpY_came post (nI L, nI m, nI S, wy, nI q, ya, se, fl, y, vt, ot, ra, br, oc, it, le, tk, cn, kd, nu, lf, la, pc, yb, yh, yk, ho, ap, rd, si, vs, os) x) ∧ rr_N pn wp se wy ra it le pe op kd nu co cl si tk cn L S m (rn_P S g b 1 (s + 1)) (s + 1) act u1 v1 := by
  have hkc : (kd s).toNatClampNeg = 16 := by rw [hk0]; exact nI_clamp (by omega)
  have hk14 : ¬ kd s = 14 := by rw [hk0]; decide
  have hk15 : ¬ kd s = 15 := by rw [hk0]; decide
  have hk16 : kd s = 16 := hk0
  obtain ⟨hbb, j, hj, hhc, hho, hyp, hj0, _, heq⟩ := dd_get h hs hk0 (by omega)
  have hb0 : b s = 0 := h.2.2.2.2.2.2.1 s hs (Or.inr ⟨rfl, by decide⟩) (by rw [hkc]; simp [rn_cl])
  have := hj0 hb0
  subst this
  have hn : r s < 150 := by
    have a := h.1
    have c := h.2.2.2.1 (s + 1) (by omega)
    have d := h.2.2.2.2.2.1 s hs rfl rfl
    omega
  have hs8 : s < 8 := by omega
  rw [Nat.add_zero] at hhc hho heq
  have heq2 : ∀ i, i < r s → hd (150 * s + i) = yh (160 * s + i) ∧ hk (150 * s + i) = yk (160 * s + i) := fun i hi => by
    have := heq i hi
    rw [rn_sl_at (by omega), rn_sl_at (by omega), rn_sl_at (by omega), rn_sl_at (by omega)] at this
    exact this
  have x150 : x * 150 = nI (150 * s) := by
    subst hx
    have := vx_150 hv 0
    rw [nI_0, Int32.add_zero, Nat.add_zero] at this
    exact this
  rcases rn_apx (pn := pn) (wp := wp) (se := se) (fl := fl) (rs := rs) (sn := sn) (it := it) (le := le) (pe := pe) (op := op) (kd := kd) (nu := nu) (co := co) (cl := cl) (ap := ap) (rd := rd) (si := si) (bg := bg) (ct := ct) (ls := ls) (hd := hd) (hk := hk) (hc := hc) (vl := vl) (wy := wy) (ya := ya) (vt := vt) (ot := ot) (ra := ra) (br := br) (oc := oc) (tk := tk) (cn := cn) (lf := lf) (la := la) (pc := pc) (yb := yb) (yh := yh) (yk := yk) (ho := ho) (vs := vs) (os := os) (sr := nI m) (sc := nI S) (en := 0) (pt := nI s) (sg := 1) (el := y) (vv := y) hL h.1 hv hx hE y 0 with ⟨oe, p', fl', vv', vt', ot', br', ap', vl', vs', os', w1, w2, w3⟩ | ⟨hq, v, vt', ot', br', vl', vs', os', w2, w3⟩
  · refine ⟨3, (nI L, pn, wp, nI m, nI S, se, fl', nI p', oe, nI s, 1, y, rs, sn, it, le, pe, op, kd, nu, co, cl, ap', rd, si, bg, ct, ls, hd, hk, hc, vl'), (nI L, nI m, nI S, wy, nI p', ya, se, fl', vv', vt', ot', ra, br', oe, it, le, tk, cn, kd, nu, lf, la, pc, yb, yh, yk, ho, ap', rd, si, vs', os'), fun post hp => ?_, fun post hp => ?_, md_out w1⟩
    · subst hx
      exact ⟨hv, nm_r hk0 (br_f (by decide) (br_f (by decide) (br_f (by decide) (br_f (by decide) (br_f (by decide) (br_f (by decide) (br_f (by decide) (br_f (by decide) (br_f (by decide) (br_f (by decide) (br_f (by decide) (br_f (by decide) (br_f (by decide) (br_f (by decide) (br_f (by decide) (br_f (by decide) (br_f (by decide) (br_f (by decide) (br_t rfl (⟨hv, br_f hk15 (w2 _ (br_t rfl hp))⟩))))))))))))))))))))⟩
    · subst hx
      exact ⟨hv, nm_r hk0 (br_f (by decide) (br_t (by decide) (⟨hv, nm_r hk0 (br_f (by decide) (br_t (by decide) (w3 _ (br_t rfl hp))))⟩)))⟩
  · rcases sr_least (fun i => hk (150 * s + i)) v (r s) with hno | ⟨i0, hi0, hyes, hno⟩
    · refine ⟨2, (nI L, pn, wp, nI m, nI S, se, fl, nI (q + 1), 0, rn_aI s, 0, y, v, sn, it, le, pe, op, kd, nu, co, cl, upd ap s (ap s + 1), rd, si, bg, ct, ls, upd hd (150 * s + r s) y, upd hk (150 * s + r s) v, upd hc s (nI (r s + 1)), vl'), (nI L, nI m, nI S, wy, nI (q + 1), ya, se, fl, v, vt', ot', ra, br', oc, it, le, tk, cn, kd, nu, lf, la, pc, yb, upd yh (160 * s + r s) y, upd yk (160 * s + r s) v, upd ho s (nI (r s + 1)), upd ap s (ap s + 1), rd, si, vs', os'), fun post hp => ?_, fun post hp => ?_, md_ask hkd hS hs h (k := 16) (r1 := r s + 1) ⟨fun t ht => by simp [pk_un ht], fun i hi => ⟨pk_un (by omega), pk_un (by omega)⟩, fun i hi => ⟨pk_un (by omega), pk_un (by omega)⟩⟩ (Or.inr rfl) (Or.inr ⟨rfl, Nat.le_refl _⟩) (fun _ => hb0) (by omega) (by omega) hkc (fun P' hP => ?_)⟩
      · have hG : ∀ post : SX → Prop, post (nI L, pn, wp, nI m, nI S, se, fl, nI (q + 1), 0, nI s, 1, y, v, sn, it, le, pe, op, kd, nu, co, cl, upd ap s (ap s + 1), rd, si, bg, ct, ls, upd hd (150 * s + r s) y, upd hk (150 * s + r s) v, upd hc s (nI (r s + 1)), vl') → wpX_holdInGroup post (nI L, pn, wp, nI m, nI S, se, fl, nI (q + 1), 0, nI s, 1, y, v, sn, it, le, pe, op, kd, nu, co, cl, upd ap s (ap s + 1), rd, si, bg, ct, ls, hd, hk, hc, vl') x y v := fun post hp => by
          have key : ∀ (d i nf : Nat), i + d = r s → d < nf → wX_holdInGroup_22 post x y v (nI (150 * s + r s)) (nI L) pn wp (nI m) (nI S) se fl (nI (q + 1)) 0 (nI s) 1 y v sn it le pe op kd nu co cl (upd ap s (ap s + 1)) rd si bg ct ls hd hk hc vl' nf (nI (150 * s + i)) := by
            intro d
            induction d with
            | zero =>
              intro i nf hi hf
              obtain ⟨f, rfl⟩ : ∃ f, nf = f + 1 := ⟨nf - 1, by omega⟩
              exact br_t (by rw [nI_leI (by omega) (by omega)]; omega) (xr_hold hv hx hn hhc v hp)
            | succ d IH =>
              intro i nf hi hf
              obtain ⟨f, rfl⟩ : ∃ f, nf = f + 1 := ⟨nf - 1, by omega⟩
              exact br_f (nI_ge (by omega) (by omega)) ⟨vp_in_nI (by omega) (by omega), br_f (by rw [nI_clamp (by omega)]; exact hno i (by omega)) (nm_r (nI_1 _) (IH (i + 1) f (by omega) (by omega)))⟩
          refine nm_r x150 ⟨hv, nm_r (e' := nI (150 * s + r s)) (by rw [hx, hhc, nI_add]) ⟨_, key (r s) 0 _ (by omega) (Nat.lt_succ_self _)⟩⟩
        subst hx
        exact ⟨hv, nm_r hk0 (br_f (by decide) (br_f (by decide) (br_f (by decide) (br_f (by decide) (br_f (by decide) (br_f (by decide) (br_f (by decide) (br_f (by decide) (br_f (by decide) (br_f (by decide) (br_f (by decide) (br_f (by decide) (br_f (by decide) (br_f (by decide) (br_f (by decide) (br_f (by decide) (br_f (by decide) (br_f (by decide) (br_t rfl (⟨hv, br_f hk15 (w2 _ (br_f (by decide) ⟨hv, br_f hk14 (hG _ (xr_ask hp))⟩))⟩))))))))))))))))))))⟩
      · have hG := fun (post : SY → Prop) hp => yr_hold (wy := wy) (ya := ya) (se := se) (fl := fl) (ra := ra) (oc := oc) (it := it) (le := le) (tk := tk) (cn := cn) (kd := kd) (nu := nu) (lf := lf) (la := la) (pc := pc) (yb := yb) (yh := yh) (yk := yk) (ho := ho) (rd := rd) (si := si) (lm := nI L) (sr := nI m) (sc := nI S) (sp := nI (q + 1)) (vv := v) (ap := upd ap s (ap s + 1)) (vt := vt') (ot := ot') (br := br') (vs := vs') (os := os') (post := post) (y := y) hv hx hn hho v hp
        have hF := fun (post : Int32 → Prop) hp => yr_find0 (wy := wy) (ya := ya) (se := se) (fl := fl) (ra := ra) (oc := oc) (it := it) (le := le) (tk := tk) (cn := cn) (kd := kd) (nu := nu) (lf := lf) (la := la) (pc := pc) (yb := yb) (yh := yh) (yk := yk) (ho := ho) (rd := rd) (si := si) (lm := nI L) (sr := nI m) (sc := nI S) (sp := nI (q + 1)) (vv := v) (ap := upd ap s (ap s + 1)) (vt := vt') (ot := ot') (br := br') (vs := vs') (os := os') (post := post) (y := v) hv hx (Nat.le_of_lt hn) hho (fun i hi => by rw [← (heq2 i hi).2]; exact hno i hi) hp
        subst hx
        exact ⟨hv, nm_r hk0 (br_f (by decide) (br_t (by decide) (⟨hv, nm_r hk0 (br_f (by decide) (br_t (by decide) (w3 _ (br_f (by decide) ⟨hv, br_t hk16 (hF _ (br_t (by decide) (hG _ hp)))⟩))))⟩)))⟩
      · refine ⟨hbb, 0, by omega, pk_us, pk_us, hyp, fun _ => rfl, fun z => absurd z (by omega), fun i hi => ?_⟩
        rw [rn_sl_at (by omega), rn_sl_at (by omega), rn_sl_at (by omega), rn_sl_at (by omega)]
        by_cases ei : i = r s
        · subst ei; rw [pk_us, pk_us, pk_us, pk_us]; exact ⟨rfl, rfl⟩
        · rw [pk_un (by omega), pk_un (by omega), pk_un (by omega), pk_un (by omega)]; exact heq2 i (by omega)
    · refine ⟨2, (nI L, pn, wp, nI m, nI S, se, fl, nI (q + 1), 0, rn_aI s, 0, y, v, sn, it, le, pe, op, kd, nu, co, cl, upd ap s (ap s + 1), rd, si, bg, ct, ls, upd hd (150 * s + i0) (hd (150 * s + i0) + y), hk, hc, vl'), (nI L, nI m, nI S, wy, nI (q + 1), ya, se, fl, v, vt', ot', ra, br', oc, it, le, tk, cn, kd, nu, lf, la, pc, yb, upd yh (160 * s + i0) (yh (160 * s + i0) + y), yk, ho, upd ap s (ap s + 1), rd, si, vs', os'), fun post hp => ?_, fun post hp => ?_, md_ask hkd hS hs h (k := 16) (r1 := r s) ⟨fun t ht => ⟨rfl, rfl, rfl, rfl, rfl, rfl, rfl, rfl, rfl⟩, fun i hi => ⟨pk_un (by omega), rfl⟩, fun i hi => ⟨pk_un (by omega), rfl⟩⟩ (Or.inr rfl) (Or.inl (Nat.le_refl _)) (fun _ => hb0) (by omega) (by omega) hkc (fun P' hP => ?_)⟩
      · have hG : ∀ post : SX → Prop, post (nI L, pn, wp, nI m, nI S, se, fl, nI (q + 1), 0, nI s, 1, y, v, sn, it, le, pe, op, kd, nu, co, cl, upd ap s (ap s + 1), rd, si, bg, ct, ls, upd hd (150 * s + i0) (hd (150 * s + i0) + y), hk, hc, vl') → wpX_holdInGroup post (nI L, pn, wp, nI m, nI S, se, fl, nI (q + 1), 0, nI s, 1, y, v, sn, it, le, pe, op, kd, nu, co, cl, upd ap s (ap s + 1), rd, si, bg, ct, ls, hd, hk, hc, vl') x y v := fun post hp => by
          have key : ∀ (d i nf : Nat), i + d = i0 → d < nf → wX_holdInGroup_22 post x y v (nI (150 * s + r s)) (nI L) pn wp (nI m) (nI S) se fl (nI (q + 1)) 0 (nI s) 1 y v sn it le pe op kd nu co cl (upd ap s (ap s + 1)) rd si bg ct ls hd hk hc vl' nf (nI (150 * s + i)) := by
            intro d
            induction d with
            | zero =>
              intro i nf hi hf
              obtain ⟨f, rfl⟩ : ∃ f, nf = f + 1 := ⟨nf - 1, by omega⟩
              have : i = i0 := by omega
              subst this
              have hin : vp_in (nI (150 * s + i)) 1200 := vp_in_nI (by omega) (by omega)
              exact br_f (nI_ge (by omega) (by omega)) ⟨hin, br_t (by rw [nI_clamp (by omega)]; exact hyes) ⟨hin, hin, nm_r (by rw [nI_clamp (by omega)]) hp⟩⟩
            | succ d IH =>
              intro i nf hi hf
              obtain ⟨f, rfl⟩ : ∃ f, nf = f + 1 := ⟨nf - 1, by omega⟩
              exact br_f (nI_ge (by omega) (by omega)) ⟨vp_in_nI (by omega) (by omega), br_f (by rw [nI_clamp (by omega)]; exact hno i (by omega)) (nm_r (nI_1 _) (IH (i + 1) f (by omega) (by omega)))⟩
          refine nm_r x150 ⟨hv, nm_r (e' := nI (150 * s + r s)) (by rw [hx, hhc, nI_add]) ⟨_, key i0 0 _ (by omega) (Nat.lt_succ_self _)⟩⟩
        subst hx
        exact ⟨hv, nm_r hk0 (br_f (by decide) (br_f (by decide) (br_f (by decide) (br_f (by decide) (br_f (by decide) (br_f (by decide) (br_f (by decide) (br_f (by decide) (br_f (by decide) (br_f (by decide) (br_f (by decide) (br_f (by decide) (br_f (by decide) (br_f (by decide) (br_f (by decide) (br_f (by decide) (br_f (by decide) (br_f (by decide) (br_t rfl (⟨hv, br_f hk15 (w2 _ (br_f (by decide) ⟨hv, br_f hk14 (hG _ (xr_ask hp))⟩))⟩))))))))))))))))))))⟩
      · have hF := fun (post : Int32 → Prop) hp => yr_find1 (wy := wy) (ya := ya) (se := se) (fl := fl) (ra := ra) (oc := oc) (it := it) (le := le) (tk := tk) (cn := cn) (kd := kd) (nu := nu) (lf := lf) (la := la) (pc := pc) (yb := yb) (yh := yh) (yk := yk) (ho := ho) (rd := rd) (si := si) (lm := nI L) (sr := nI m) (sc := nI S) (sp := nI (q + 1)) (vv := v) (ap := upd ap s (ap s + 1)) (vt := vt') (ot := ot') (br := br') (vs := vs') (os := os') (post := post) (y := v) hv hx (Nat.le_of_lt hn) hho hi0 (by rw [← (heq2 i0 hi0).2]; exact hyes) (fun i hi => by rw [← (heq2 i (by omega)).2]; exact hno i hi) hp
        subst hx
        have e1 : 160 * x + nI i0 = nI (160 * x.toNatClampNeg + i0) := by rw [vx_160 hv, nI_add]
        have hin : vp_in (160 * x + nI i0) 1280 := by rw [e1]; exact vp_in_nI (by omega) (by omega)
        have hcc : (160 * x + nI i0).toNatClampNeg = 160 * x.toNatClampNeg + i0 := by rw [e1, nI_clamp (by omega)]
        exact ⟨hv, nm_r hk0 (br_f (by decide) (br_t (by decide) (⟨hv, nm_r hk0 (br_f (by decide) (br_t (by decide) (w3 _ (br_f (by decide) ⟨hv, br_t hk16 (hF _ (br_f (nI_pos (by omega)) ⟨hin, hin, nm_r (by rw [hcc]) hp⟩))⟩))))⟩)))⟩
      · refine ⟨hbb, 0, by omega, by rw [Nat.add_zero]; exact hhc, by rw [Nat.add_zero]; exact hho, hyp, fun _ => rfl, fun z => absurd z (by omega), fun i hi => ?_⟩
        rw [rn_sl_at (by omega), rn_sl_at (by omega), rn_sl_at (by omega), rn_sl_at (by omega)]
        have := heq2 i (by omega)
        refine ⟨?_, this.2⟩
        by_cases ei : i = i0
        · subst ei; rw [pk_us, pk_us, this.1]
        · rw [pk_un (by omega), pk_un (by omega)]; exact this.1
end
