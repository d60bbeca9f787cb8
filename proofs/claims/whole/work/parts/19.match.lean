theorem mt_3 (v l : Int32) : ((v ^^^ l) &&& 3 = 0) ↔ (v &&& 3 = l &&& 3) := by
  constructor
  · intro h
    refine b_ext (fun i hi => ?_)
    have := congrArg (fun z => bt z i) h
    simp only [b_and, b_xor, b_0] at this ⊢
    revert this
    cases bt v i <;> cases bt l i <;> cases bt 3 i <;> decide
  · intro h
    refine b_ext (fun i hi => ?_)
    have := congrArg (fun z => bt z i) h
    simp only [b_and, b_xor, b_0] at this ⊢
    revert this
    cases bt v i <;> cases bt l i <;> cases bt 3 i <;> decide
section
variable {lm pn wp sr sc se fl sp pt sg el rs sn wy ya vv vt ot ra br : Int32} {en oc : Int64} {it le pe op kd nu co cl ap rd si bg ct ls hd hk hc vl tk cn lf la pc yb yh yk ho vs os : Nat → Int32}
variable {bg' ct' ls' hd' hk' hc' lf' la' pc' yb' yh' yk' ho' : Nat → Int32} {S L m q s sgn k : Nat} {g e r b : Nat → Nat} {x y : Int32}
theorem mt_loop (hkd : ∀ t, t < S → (kd t).toNatClampNeg ≤ 16) (hS : S ≤ 8) (hL : L ≤ 150) (hs : s < S) (hv : vp_in x 8) (hx : x.toNatClampNeg = s) (h : dd_D S L m le kd nu g e r b 0 (s + 1) q sn ya bg ct ls hd hk hc lf la pc yb yh yk ho) (hk0 : kd s = nI 11) (hb1 : ¬ bg s = 0) {mm n : Nat} (hmm : mm < 3) (hn : n ≤ 24) (hnu : nu s = nI mm) (hle : le mm = nI n) (hll : ls s = la s) (hbb : bg s = yb s) {i0 : Nat} (hi0 : i0 ≤ n) (hxc : ct s = nI i0) :
    ∀ (d i q1 : Nat) (rs vv : Int32) (rd pc1 : Nat → Int32), i + d = n → q ≤ q1 → q1 ≤ L → pc1 s = nI i → (∀ t, t ≠ s → pc1 t = pc t) →
    ∃ (act : Int32) (u1 : SX) (v1 : SY), (∀ (post : SX → Prop) (nf : Nat), d < nf → post u1 → wX_matchAsked_43 post x (nI mm) (ls s) (nI n) nf (nI i) (nI L) pn wp (nI m) (nI S) se fl (nI q1) 0 (nI s) 0 el rs sn it le pe op kd nu co cl ap rd si bg ct ls hd hk hc vl) ∧ (∀ (post : Int32 → SY → Prop) (nf : Nat), d < nf → post act v1 → wY_match_7 post x (nI mm) nf (nI L) (nI m) (nI S) wy (nI q1) ya se fl vv vt ot ra br oc it le tk cn kd nu lf la pc1 yb yh yk ho ap rd si vs os) ∧ rr_N pn wp se wy ra it le pe op kd nu co cl si tk cn L S m (rn_P S g b 0 (s + 1)) (s + 1) act u1 v1 := by
  have hkc : (kd s).toNatClampNeg = 11 := by rw [hk0]; exact nI_clamp (by omega)
  intro d
  induction d with
  | zero =>
    intro i q1 rs vv rd pc1 hi hq1 hq2 hpi hpt
    have : i = n := by omega
    subst this
    refine ⟨2, (nI L, pn, wp, nI m, nI S, se, fl, nI q1, 0, rn_aI s, 0, el, rs, sn, it, le, pe, op, kd, nu, co, cl, ap, rd, si, upd bg s (vp_nar .boolean 0), ct, ls, hd, hk, hc, vl), (nI L, nI m, nI S, wy, nI q1, ya, se, fl, vv, vt, ot, ra, br, oc, it, le, tk, cn, kd, nu, lf, la, upd pc1 s (nI (i + 1)), upd yb s (vp_nar .boolean 0), yh, yk, ho, ap, rd, si, vs, os), fun post nf hf hp => ?_, fun post nf hf hp => ?_, md_ask hkd hS hs h (k := 11) (r1 := r s) ⟨fun t ht => by simp [pk_un ht, hpt t ht], fun i hi => ⟨rfl, rfl⟩, fun i hi => ⟨rfl, rfl⟩⟩ (Or.inl rfl) (Or.inl (Nat.le_refl _)) (fun z => absurd z (by simp [rn_cl])) hq1 hq2 hkc (fun P' hP => ?_)⟩
    · obtain ⟨f, rfl⟩ : ∃ f, nf = f + 1 := ⟨nf - 1, by omega⟩
      subst hx
      exact br_t (Int32.le_refl _) ⟨hv, nm_e (xr_ask hp)⟩
    · obtain ⟨f, rfl⟩ : ∃ f, nf = f + 1 := ⟨nf - 1, by omega⟩
      subst hx
      refine ⟨hv, hv, nm_r (e' := upd pc1 x.toNatClampNeg (nI (i + 1))) (by rw [hpi, nI_1]) ?_⟩
      rw [hpi]
      refine yr_ftE hmm hn hle (by omega) (by omega) ?_
      exact br_f (by decide) (br_t rfl ⟨hv, nm_e hp⟩)
    · refine ⟨by rw [pk_us, pk_us], i0, by rw [zl_eq hnu hmm hle hn]; exact hi0, hxc, fun z => absurd ?_ z⟩
      rw [pk_us, vn_0]
  | succ d IH =>
    intro i q1 rs vv rd pc1 hi hq1 hq2 hpi hpt
    have hnle : ¬ nI n ≤ nI i := nI_ge (by omega) (by omega)
    by_cases hq : q1 < L
    · obtain ⟨w, hw⟩ : ∃ w, w = it (24 * mm + i) := ⟨_, rfl⟩
      by_cases hc3 : (w ^^^ ls s) &&& 3 = 0
      · refine ⟨1, (nI L, pn, wp, nI m, nI S, se, fl, nI (q1 + 1), 0, nI (s + 1), 1, ls s + w, w, sn, it, le, pe, op, kd, nu, co, cl, ap, upd rd mm (rd mm + 1), si, bg, upd ct s (nI (i + 1)), ls, hd, hk, hc, vl), (nI L, nI m, nI S, wy, nI (q1 + 1), ya, se, fl, ls s + w, vt, ot, ra, br, oc, it, le, tk, cn, kd, nu, lf, la, upd pc1 s (nI (i + 1)), yb, yh, yk, ho, ap, upd rd mm (rd mm + 1), si, vs, os), fun post nf hf hp => ?_, fun post nf hf hp => ?_, md_pay _ hkd hS hs h (k := 11) (r1 := r s) ⟨fun t ht => by simp [pk_un ht, hpt t ht], fun i hi => ⟨rfl, rfl⟩, fun i hi => ⟨rfl, rfl⟩⟩ (Or.inl rfl) (Or.inl (Nat.le_refl _)) (by omega) (by omega) hkc (fun P' hP => ?_)⟩
        · obtain ⟨f, rfl⟩ : ∃ f, nf = f + 1 := ⟨nf - 1, by omega⟩
          subst hx
          refine br_f hnle (xr_rd1 hL hq hmm (by omega) ?_)
          rw [← hw]
          exact br_f (by decide) (br_t hc3 ⟨hv, nm_r (by rw [nI_1]) (xr_give hp)⟩)
        · obtain ⟨f, rfl⟩ : ∃ f, nf = f + 1 := ⟨nf - 1, by omega⟩
          subst hx
          refine ⟨hv, hv, nm_r (e' := upd pc1 x.toNatClampNeg (nI (i + 1))) (by rw [hpi, nI_1]) ?_⟩
          rw [hpi]
          refine yr_ft1 hL hq hmm hn hle (by omega) ?_
          rw [← hw]
          refine br_f (by decide) (br_f (by decide) ⟨hv, br_t ?_ ⟨hv, nm_r ?_ hp⟩⟩)
          · rw [← hll]; exact (mt_3 _ _).mp hc3
          · rw [← hll, Int32.add_comm]
        · refine ⟨hbb, i + 1, by rw [zl_eq hnu hmm hle hn]; omega, pk_us, fun _ => ⟨hll, pk_us⟩⟩
      · obtain ⟨act, u1, v1, w1, w2, w3⟩ := IH (i + 1) (q1 + 1) w w (upd rd mm (rd mm + 1)) (upd pc1 s (nI (i + 1))) (by omega) (by omega) (by omega) pk_us (fun t ht => by rw [pk_un ht]; exact hpt t ht)
        refine ⟨act, u1, v1, fun post nf hf hp => ?_, fun post nf hf hp => ?_, w3⟩
        · obtain ⟨f, rfl⟩ : ∃ f, nf = f + 1 := ⟨nf - 1, by omega⟩
          refine br_f hnle (xr_rd1 hL hq hmm (by omega) ?_)
          rw [← hw]
          exact br_f (by decide) (br_f hc3 (nm_r (nI_1 _) (w1 post f (by omega) hp)))
        · obtain ⟨f, rfl⟩ : ∃ f, nf = f + 1 := ⟨nf - 1, by omega⟩
          subst hx
          refine ⟨hv, hv, nm_r (e' := upd pc1 x.toNatClampNeg (nI (i + 1))) (by rw [hpi, nI_1]) ?_⟩
          rw [hpi]
          refine yr_ft1 hL hq hmm hn hle (by omega) ?_
          rw [← hw]
          refine br_f (by decide) (br_f (by decide) ⟨hv, br_f ?_ (w2 post f (by omega) hp)⟩)
          rw [← hll]; exact fun z => hc3 ((mt_3 _ _).mpr z)
    · have : L = q1 := by omega
      subst this
      refine ⟨3, (nI L, pn, wp, nI m, nI S, se, fl, nI L, 9000000000000000001, nI s, 0, el, rs, sn, it, le, pe, op, kd, nu, co, cl, ap, rd, si, bg, ct, ls, hd, hk, hc, vl), (nI L, nI m, nI S, wy, nI L, ya, se, fl, vv, vt, ot, ra, br, 9000000000000000001, it, le, tk, cn, kd, nu, lf, la, upd pc1 s (nI (i + 1)), yb, yh, yk, ho, ap, rd, si, vs, os), fun post nf hf hp => ?_, fun post nf hf hp => ?_, md_out (oe := 9000000000000000001) (by decide)⟩
      · obtain ⟨f, rfl⟩ : ∃ f, nf = f + 1 := ⟨nf - 1, by omega⟩
        refine br_f hnle (xr_rd0 ?_)
        exact br_t rfl hp
      · obtain ⟨f, rfl⟩ : ∃ f, nf = f + 1 := ⟨nf - 1, by omega⟩
        subst hx
        refine ⟨hv, hv, nm_r (e' := upd pc1 x.toNatClampNeg (nI (i + 1))) (by rw [hpi, nI_1]) ?_⟩
        rw [hpi]
        refine yr_ft0 hmm hn hle (by omega) ?_
        exact br_t rfl hp
theorem mt_in (hkd : ∀ t, t < S → (kd t).toNatClampNeg ≤ 16) (hS : S ≤ 8) (hL : L ≤ 150) (hs : s < S) (hv : vp_in x 8) (hx : x.toNatClampNeg = s) (h : dd_D S L m le kd nu g e r b 0 (s + 1) q sn ya bg ct ls hd hk hc lf la pc yb yh yk ho) (hk0 : kd s = nI 11) (hb1 : ¬ bg s = 0) {mm n : Nat} (hmm : mm < 3) (hn : n ≤ 24) (hnu : nu s = nI mm) (hle : le mm = nI n) :
    ∃ (act : Int32) (u1 : SX) (v1 : SY), (∀ post : SX → Prop, post u1 → wpX_stageAsked post (nI L, pn, wp, nI m, nI S, se, fl, nI q, 0, nI s, 0, el, rs, sn, it, le, pe, op, kd, nu, co, cl, ap, rd, si, bg, ct, ls, hd, hk, hc, vl) x) ∧ (∀ post : Int32 → SY → Prop, post act v1 → wpY_match post (nI L, nI m, nI S, wy, nI q, ya, se, fl, vv, vt, ot, ra, br, oc, it, le, tk, cn, kd, nu, lf, la, pc, yb, yh, yk, ho, ap, rd, si, vs, os) x) ∧ rr_N pn wp se wy ra it le pe op kd nu co cl si tk cn L S m (rn_P S g b 0 (s + 1)) (s + 1) act u1 v1 := by
  have hT := dd_get h hs hk0 (by omega)
  obtain ⟨hbb, i, hi, hxc, hrest⟩ := hT
  obtain ⟨hll, hyp⟩ := hrest hb1
  rw [zl_eq hnu hmm hle hn] at hi
  obtain ⟨act, u1, v1, w1, w2, w3⟩ := mt_loop (pn := pn) (wp := wp) (se := se) (fl := fl) (el := el) (sn := sn) (it := it) (le := le) (pe := pe) (op := op) (kd := kd) (nu := nu) (co := co) (cl := cl) (ap := ap) (si := si) (bg := bg) (ct := ct) (ls := ls) (hd := hd) (hk := hk) (hc := hc) (vl := vl) (wy := wy) (ya := ya) (vt := vt) (ot := ot) (ra := ra) (br := br) (oc := oc) (tk := tk) (cn := cn) (lf := lf) (la := la) (pc := pc) (yb := yb) (yh := yh) (yk := yk) (ho := ho) (vs := vs) (os := os) hkd hS hL hs hv hx h hk0 hb1 hmm hn hnu hle hll hbb hi hxc (n - i) i q rs vv rd pc (by omega) (Nat.le_refl _) h.1 hyp (fun _ _ => rfl)
  refine ⟨act, u1, v1, fun post hp => ?_, fun post hp => ?_, w3⟩
  · subst hx
    refine ⟨hv, nm_r hk0 (br_f (by decide) (br_f (by decide) (br_f (by decide) (br_f (by decide) (br_f (by decide) (br_f (by decide) (br_f (by decide) (br_f (by decide) (br_f (by decide) (br_f (by decide) (br_f (by decide) (br_t rfl (⟨hv, nm_r hnu ⟨hv, nm_e ⟨hv, br_f hb1 ⟨vp_in_nI hmm (by omega), nm_r (e' := nI n) (by rw [nI_clamp (by omega)]; exact hle) ⟨hv, nm_r hxc ⟨_, w1 _ _ (Nat.lt_succ_self _) (sx_eta hp)⟩⟩⟩⟩⟩⟩)))))))))))))⟩
  · subst hx
    exact ⟨hv, nm_r hnu ⟨_, w2 _ _ (Nat.lt_succ_self _) hp⟩⟩
theorem as_11 (hkd : ∀ t, t < S → (kd t).toNatClampNeg ≤ 16) (hS : S ≤ 8) (hL : L ≤ 150) (hs : s < S) (hv : vp_in x 8) (hx : x.toNatClampNeg = s) (h : dd_D S L m le kd nu g e r b 0 (s + 1) q sn ya bg ct ls hd hk hc lf la pc yb yh yk ho) (hk0 : kd s = nI 11) {mm n : Nat} (hmm : mm < 3) (hn : n ≤ 24) (hnu : nu s = nI mm) (hle : le mm = nI n) : ∃ (act : Int32) (u1 : SX) (v1 : SY), (∀ post : SX → Prop, post u1 → wpX_stageAsked post (nI L, pn, wp, nI m, nI S, se, fl, nI q, 0, nI s, 0, el, rs, sn, it, le, pe, op, kd, nu, co, cl, ap, rd, si, bg, ct, ls, hd, hk, hc, vl) x) ∧ (∀ post : Int32 → SY → Prop, post act v1 → wpY_asked post (nI L, nI m, nI S, wy, nI q, ya, se, fl, vv, vt, ot, ra, br, oc, it, le, tk, cn, kd, nu, lf, la, pc, yb, yh, yk, ho, ap, rd, si, vs, os) x) ∧ rr_N pn wp se wy ra it le pe op kd nu co cl si tk cn L S m (rn_P S g b 0 (s + 1)) (s + 1) act u1 v1 := by
  have hT := dd_get h hs hk0 (by omega)
  have hkc : (kd s).toNatClampNeg = 11 := by rw [hk0]; exact nI_clamp (by omega)
  obtain ⟨hbb, i, hi, hxc, hrest⟩ := hT
  by_cases hb1 : bg s = 0
  · refine ⟨2, (nI L, pn, wp, nI m, nI S, se, fl, nI q, 0, rn_aI s, 0, el, rs, sn, it, le, pe, op, kd, nu, co, cl, ap, rd, si, upd bg s (vp_nar .boolean 0), ct, ls, hd, hk, hc, vl), (nI L, nI m, nI S, wy, nI q, ya, se, fl, vv, vt, ot, ra, br, oc, it, le, tk, cn, kd, nu, lf, la, pc, yb, yh, yk, ho, ap, rd, si, vs, os), fun post hp => ?_, fun post hp => ?_, md_ask hkd hS hs h (k := 11) (r1 := r s) ⟨fun t ht => by simp [pk_un ht], fun i hi => ⟨rfl, rfl⟩, fun i hi => ⟨rfl, rfl⟩⟩ (Or.inl rfl) (Or.inl (Nat.le_refl _)) (fun z => absurd z (by simp [rn_cl])) (Nat.le_refl _) h.1 hkc (fun P' hP => ?_)⟩
    · subst hx
      exact ⟨hv, nm_r hk0 (br_f (by decide) (br_f (by decide) (br_f (by decide) (br_f (by decide) (br_f (by decide) (br_f (by decide) (br_f (by decide) (br_f (by decide) (br_f (by decide) (br_f (by decide) (br_f (by decide) (br_t rfl (⟨hv, nm_e ⟨hv, nm_e ⟨hv, br_t hb1 ⟨hv, nm_e ⟨1, br_t (by rw [hxc]; exact nI_pos' (by rw [zl_eq hnu hmm hle hn] at hi; omega)) ⟨hv, nm_e (xr_ask hp)⟩⟩⟩⟩⟩⟩)))))))))))))⟩
    · subst hx
      exact ⟨hv, nm_r hk0 (br_f (by decide) (br_f (by decide) (br_f (by decide) (br_f (by decide) (br_f (by decide) (br_f (by decide) (br_f (by decide) (br_f (by decide) (br_f (by decide) (br_f (by decide) (br_f (by decide) (br_t rfl (⟨hv, br_t (by rw [← hbb]; exact hb1) hp⟩)))))))))))))⟩
    · refine ⟨by rw [pk_us, vn_0, ← hbb]; exact hb1.symm, i, hi, hxc, fun z => absurd ?_ z⟩
      rw [pk_us, vn_0]
  · obtain ⟨act, u1, v1, w1, w2, w3⟩ := mt_in (pn := pn) (wp := wp) (se := se) (fl := fl) (el := el) (rs := rs) (sn := sn) (it := it) (le := le) (pe := pe) (op := op) (kd := kd) (nu := nu) (co := co) (cl := cl) (ap := ap) (rd := rd) (si := si) (bg := bg) (ct := ct) (ls := ls) (hd := hd) (hk := hk) (hc := hc) (vl := vl) (wy := wy) (ya := ya) (vv := vv) (vt := vt) (ot := ot) (ra := ra) (br := br) (oc := oc) (tk := tk) (cn := cn) (lf := lf) (la := la) (pc := pc) (yb := yb) (yh := yh) (yk := yk) (ho := ho) (vs := vs) (os := os) hkd hS hL hs hv hx h hk0 hb1 hmm hn hnu hle
    refine ⟨act, u1, v1, w1, fun post hp => ?_, w3⟩
    subst hx
    exact ⟨hv, nm_r hk0 (br_f (by decide) (br_f (by decide) (br_f (by decide) (br_f (by decide) (br_f (by decide) (br_f (by decide) (br_f (by decide) (br_f (by decide) (br_f (by decide) (br_f (by decide) (br_f (by decide) (br_t rfl (⟨hv, br_f (by rw [← hbb]; exact hb1) (w2 _ (sy_eta hp))⟩)))))))))))))⟩
end
