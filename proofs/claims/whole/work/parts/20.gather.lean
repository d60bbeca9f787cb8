theorem upd_self (f : Nat → Int32) (k : Nat) : upd f k (f k) = f := by
  funext j
  unfold upd
  split
  · rename_i h; rw [h]
  · rfl
theorem vx_n {x : Int32} (hv : vp_in x 8) : x = nI x.toNatClampNeg ∧ x.toNatClampNeg < 8 := by
  obtain ⟨j, hj, rfl⟩ := vp_in_of hv (by omega)
  rw [nI_clamp (by omega)]
  exact ⟨rfl, hj⟩
theorem vx_150 {x : Int32} (hv : vp_in x 8) (i : Nat) : x * 150 + nI i = nI (150 * x.toNatClampNeg + i) := by
  have := (vx_n hv).1
  generalize x.toNatClampNeg = s at *
  subst this
  rw [show (150 : Int32) = nI 150 from rfl, pk_mul, nI_add]; exact congrArg nI (by omega)
theorem vx_160 {x : Int32} (hv : vp_in x 8) : 160 * x = nI (160 * x.toNatClampNeg) := by
  have := (vx_n hv).1
  generalize x.toNatClampNeg = s at *
  subst this
  rw [show (160 : Int32) = nI 160 from rfl, pk_mul]
section
variable {lm pn wp sr sc se fl sp pt sg el rs sn wy ya vv vt ot ra br : Int32} {en oc : Int64} {it le pe op kd nu co cl ap rd si bg ct ls hd hk hc vl tk cn lf la pc yb yh yk ho vs os : Nat → Int32}
variable {bg' ct' ls' hd' hk' hc' lf' la' pc' yb' yh' yk' ho' : Nat → Int32} {S L m q s sgn k : Nat} {g e r b : Nat → Nat} {x y : Int32}
/-- the component gives what it holds at place z -/
theorem xg_75 (hv : vp_in x 8) {z : Nat} (hz : z < 150) {post : SX → Prop} (hp : post (lm, pn, wp, sr, sc, se, fl, sp, en, nI (s + 1), 1, hd (150 * x.toNatClampNeg + z), rs, sn, it, le, pe, op, kd, nu, co, cl, ap, rd, si, bg, upd ct x.toNatClampNeg (ct x.toNatClampNeg + 1), ls, hd, hk, hc, vl)) : wX_gathererAsked_75 post x (nI z) lm pn wp sr sc se fl sp en (nI s) sg el rs sn it le pe op kd nu co cl ap rd si bg ct ls hd hk hc vl := by
  have h8 := (vx_n hv).2
  refine ⟨hv, hv, nm_e ⟨?_, ?_⟩⟩
  · rw [vx_150 hv]; exact vp_in_nI (by omega) (by omega)
  · rw [vx_150 hv, nI_clamp (by omega)]; exact xr_give hp
theorem rv_in (hkd : ∀ t, t < S → (kd t).toNatClampNeg ≤ 16) (hS : S ≤ 8) (hL : L ≤ 150) (hs : s < S) (hv : vp_in x 8) (hx : x.toNatClampNeg = s) (h : dd_D S L m le kd nu g e r b 0 (s + 1) q sn ya bg ct ls hd hk hc lf la pc yb yh yk ho) (hk0 : kd s = nI 15) (hb : b s = 1) :
    ∃ (act : Int32) (u1 : SX) (v1 : SY), (∀ post : SX → Prop, post u1 → wpX_stageAsked post (nI L, pn, wp, nI m, nI S, se, fl, nI q, 0, nI s, 0, el, rs, sn, it, le, pe, op, kd, nu, co, cl, ap, rd, si, bg, ct, ls, hd, hk, hc, vl) x) ∧ (∀ post : Int32 → SY → Prop, post act v1 → wpY_release post (nI L, nI m, nI S, wy, nI q, ya, se, fl, vv, vt, ot, ra, br, oc, it, le, tk, cn, kd, nu, lf, la, pc, yb, yh, yk, ho, ap, rd, si, vs, os) x) ∧ rr_N pn wp se wy ra it le pe op kd nu co cl si tk cn L S m (rn_P S g b 0 (s + 1)) (s + 1) act u1 v1 := by
  have hT := dd_get h hs hk0 (by omega)
  have hkc : (kd s).toNatClampNeg = 15 := by rw [hk0]; exact nI_clamp (by omega)
  obtain ⟨hbb, j, hj, hhc, hho, _, hb1, heq⟩ := hT
  obtain ⟨hxc, hyp⟩ := hb1 hb
  have hxb : bg s = 1 := by rcases hbb.2 with ⟨z, _⟩ | ⟨_, z⟩; omega; exact z
  have hx1 : ¬ bg s = 0 := by rw [hxb]; decide
  have hs8 : s < 8 := by omega
  cases hr : r s with
  | zero =>
    rw [hr, Nat.zero_add] at hhc hho
    rw [hr] at hyp
    refine ⟨0, (nI L, pn, wp, nI m, nI S, se, fl, nI q, 0, nI (s + 1), 2, el, rs, sn, it, le, pe, op, kd, nu, co, cl, ap, rd, si, bg, ct, ls, hd, hk, hc, vl), (nI L, nI m, nI S, wy, nI q, ya, se, fl, vv, vt, ot, ra, br, oc, it, le, tk, cn, kd, nu, lf, la, pc, yb, yh, yk, ho, ap, rd, si, vs, os), fun post hp => ?_, fun post hp => ?_, md_end hkd hS hs h (k := 15) fr_id (Or.inl rfl) (Nat.le_refl _) h.1 hkc (fun P' hP => dd_mono (by omega) (Nat.le_of_lt hP) (dd_get h hs hk0 (by omega)))⟩
    · subst hx
      exact ⟨hv, nm_r hk0 (br_f (by decide) (br_f (by decide) (br_f (by decide) (br_f (by decide) (br_f (by decide) (br_f (by decide) (br_f (by decide) (br_f (by decide) (br_f (by decide) (br_f (by decide) (br_f (by decide) (br_f (by decide) (br_f (by decide) (br_f (by decide) (br_f (by decide) (br_t rfl (⟨hv, nm_r hxc ⟨hv, br_f hx1 ⟨hv, br_f (by rw [hhc]; exact Int32.lt_irrefl) (xr_end hp)⟩⟩⟩)))))))))))))))))⟩
    · subst hx
      exact nm_e ⟨hv, br_t hk0 ⟨hv, br_f (by rw [hyp]; decide) hp⟩⟩
  | succ r0 =>
    rw [hr] at hj hhc hho hyp heq
    have hlt : nI j < nI (r0 + 1 + j) := nI_lt (by omega) (by omega)
    have hval : hd (150 * s + r0) = yh (160 * s + r0) := by
      have := heq r0 (by omega)
      rw [rn_sl_at (by omega), rn_sl_at (by omega)] at this
      exact this
    have hz : nI (r0 + 1 + j) - 1 - nI j = nI r0 := by
      rw [show r0 + 1 + j = (r0 + j) + 1 from by omega, nI_pred, pk_sub (by omega)]; exact congrArg nI (by omega)
    refine ⟨1, (nI L, pn, wp, nI m, nI S, se, fl, nI q, 0, nI (s + 1), 1, hd (150 * s + r0), rs, sn, it, le, pe, op, kd, nu, co, cl, ap, rd, si, bg, upd ct s (ct s + 1), ls, hd, hk, hc, vl), (nI L, nI m, nI S, wy, nI q, ya, se, fl, hd (150 * s + r0), vt, ot, ra, br, oc, it, le, tk, cn, kd, nu, lf, la, upd pc s (rn_aI r0), yb, yh, yk, ho, ap, rd, si, vs, os), fun post hp => ?_, fun post hp => ?_, md_give _ hkd hS hs h (k := 15) (r1 := r0) ⟨fun t ht => by simp [pk_un ht], fun i hi => ⟨rfl, rfl⟩, fun i hi => ⟨rfl, rfl⟩⟩ (Or.inl rfl) (Or.inl (by omega)) (Nat.le_refl _) h.1 hkc (fun P' hP => ?_)⟩
    · subst hx
      refine ⟨hv, nm_r hk0 (br_f (by decide) (br_f (by decide) (br_f (by decide) (br_f (by decide) (br_f (by decide) (br_f (by decide) (br_f (by decide) (br_f (by decide) (br_f (by decide) (br_f (by decide) (br_f (by decide) (br_f (by decide) (br_f (by decide) (br_f (by decide) (br_f (by decide) (br_t rfl (⟨hv, nm_r hxc ⟨hv, br_f hx1 ⟨hv, br_t (by rw [hhc]; exact hlt) ⟨hv, br_t hk0 (br_f (by decide) ⟨hv, ?_⟩)⟩⟩⟩⟩)))))))))))))))))⟩
      rw [hhc, hz]
      exact xg_75 hv (by omega) hp
    · subst hx
      have e1 : nI (160 * x.toNatClampNeg) + pc x.toNatClampNeg = nI (160 * x.toNatClampNeg + r0) := by rw [hyp]; exact nI_add _ _
      refine nm_r (vx_160 hv) ⟨hv, br_t hk0 ⟨hv, br_t (by rw [hyp]; exact nI_pos' (by omega)) ⟨hv, hv, nm_r (e' := upd pc x.toNatClampNeg (rn_aI r0)) (by rw [hyp]; exact congrArg _ (rn_pred r0)) ⟨?_, nm_r (e' := hd (150 * x.toNatClampNeg + r0)) ?_ hp⟩⟩⟩⟩
      · rw [e1]; exact vp_in_nI (by omega) (by omega)
      · rw [e1, nI_clamp (by omega)]; exact hval.symm
    · refine ⟨hbb, j + 1, by omega, ?_, ?_, fun z => absurd z (by omega), fun _ => ⟨by rw [pk_us, hxc, nI_1], pk_us⟩, fun i hi => heq i (by omega)⟩
      · rw [hhc]; exact congrArg nI (by omega)
      · rw [hho]; exact congrArg nI (by omega)
theorem gr_in (hkd : ∀ t, t < S → (kd t).toNatClampNeg ≤ 16) (hS : S ≤ 8) (hL : L ≤ 150) (hs : s < S) (hv : vp_in x 8) (hx : x.toNatClampNeg = s) (h : dd_D S L m le kd nu g e r b 0 (s + 1) q sn ya bg ct ls hd hk hc lf la pc yb yh yk ho) (hk0 : kd s = nI 16) (hb : b s = 1) :
    ∃ (act : Int32) (u1 : SX) (v1 : SY), (∀ post : SX → Prop, post u1 → wpX_stageAsked post (nI L, pn, wp, nI m, nI S, se, fl, nI q, 0, nI s, 0, el, rs, sn, it, le, pe, op, kd, nu, co, cl, ap, rd, si, bg, ct, ls, hd, hk, hc, vl) x) ∧ (∀ post : Int32 → SY → Prop, post act v1 → wpY_release post (nI L, nI m, nI S, wy, nI q, ya, se, fl, vv, vt, ot, ra, br, oc, it, le, tk, cn, kd, nu, lf, la, pc, yb, yh, yk, ho, ap, rd, si, vs, os) x) ∧ rr_N pn wp se wy ra it le pe op kd nu co cl si tk cn L S m (rn_P S g b 0 (s + 1)) (s + 1) act u1 v1 := by
  have hT := dd_get h hs hk0 (by omega)
  have hkc : (kd s).toNatClampNeg = 16 := by rw [hk0]; exact nI_clamp (by omega)
  obtain ⟨hbb, j, hj, hhc, hho, hyp, _, hb1, heq⟩ := hT
  have hxc := hb1 hb
  have hxb : bg s = 1 := by rcases hbb.2 with ⟨z, _⟩ | ⟨_, z⟩; omega; exact z
  have hx1 : ¬ bg s = 0 := by rw [hxb]; decide
  have hs8 : s < 8 := by omega
  have hk15 : ¬ kd s = 15 := by rw [hk0]; decide
  have hk14 : ¬ kd s = 14 := by rw [hk0]; decide
  cases hr : r s with
  | zero =>
    rw [hr, Nat.zero_add] at hhc hho
    refine ⟨0, (nI L, pn, wp, nI m, nI S, se, fl, nI q, 0, nI (s + 1), 2, el, rs, sn, it, le, pe, op, kd, nu, co, cl, ap, rd, si, bg, ct, ls, hd, hk, hc, vl), (nI L, nI m, nI S, wy, nI q, ya, se, fl, vv, vt, ot, ra, br, oc, it, le, tk, cn, kd, nu, lf, la, pc, yb, yh, yk, ho, ap, rd, si, vs, os), fun post hp => ?_, fun post hp => ?_, md_end hkd hS hs h (k := 16) fr_id (Or.inl rfl) (Nat.le_refl _) h.1 hkc (fun P' hP => dd_mono (by omega) (Nat.le_of_lt hP) (dd_get h hs hk0 (by omega)))⟩
    · subst hx
      exact ⟨hv, nm_r hk0 (br_f (by decide) (br_f (by decide) (br_f (by decide) (br_f (by decide) (br_f (by decide) (br_f (by decide) (br_f (by decide) (br_f (by decide) (br_f (by decide) (br_f (by decide) (br_f (by decide) (br_f (by decide) (br_f (by decide) (br_f (by decide) (br_f (by decide) (br_f (by decide) (br_t rfl (⟨hv, nm_r hxc ⟨hv, br_f hx1 ⟨hv, br_f (by rw [hhc]; exact Int32.lt_irrefl) (xr_end hp)⟩⟩⟩))))))))))))))))))⟩
    · subst hx
      exact nm_e ⟨hv, br_f hk15 ⟨hv, nm_r hyp ⟨hv, br_t (by rw [hho]) hp⟩⟩⟩
  | succ r0 =>
    rw [hr] at hj hhc hho heq
    have hlt : nI j < nI (r0 + 1 + j) := nI_lt (by omega) (by omega)
    have hval : hd (150 * s + j) = yh (160 * s + j) := by
      have := (heq j (by omega)).1
      rw [rn_sl_at (by omega), rn_sl_at (by omega)] at this
      exact this
    refine ⟨1, (nI L, pn, wp, nI m, nI S, se, fl, nI q, 0, nI (s + 1), 1, hd (150 * s + j), rs, sn, it, le, pe, op, kd, nu, co, cl, ap, rd, si, bg, upd ct s (ct s + 1), ls, hd, hk, hc, vl), (nI L, nI m, nI S, wy, nI q, ya, se, fl, hd (150 * s + j), vt, ot, ra, br, oc, it, le, tk, cn, kd, nu, lf, la, upd pc s (nI (j + 1)), yb, yh, yk, ho, ap, rd, si, vs, os), fun post hp => ?_, fun post hp => ?_, md_give _ hkd hS hs h (k := 16) (r1 := r0) ⟨fun t ht => by simp [pk_un ht], fun i hi => ⟨rfl, rfl⟩, fun i hi => ⟨rfl, rfl⟩⟩ (Or.inl rfl) (Or.inl (by omega)) (Nat.le_refl _) h.1 hkc (fun P' hP => ?_)⟩
    · subst hx
      exact ⟨hv, nm_r hk0 (br_f (by decide) (br_f (by decide) (br_f (by decide) (br_f (by decide) (br_f (by decide) (br_f (by decide) (br_f (by decide) (br_f (by decide) (br_f (by decide) (br_f (by decide) (br_f (by decide) (br_f (by decide) (br_f (by decide) (br_f (by decide) (br_f (by decide) (br_f (by decide) (br_t rfl (⟨hv, nm_r hxc ⟨hv, br_f hx1 ⟨hv, br_t (by rw [hhc]; exact hlt) ⟨hv, br_f hk15 (br_t rfl (xg_75 hv (by omega) hp))⟩⟩⟩⟩))))))))))))))))))⟩
    · subst hx
      have e1 : nI (160 * x.toNatClampNeg) + nI j = nI (160 * x.toNatClampNeg + j) := nI_add _ _
      have e2 : (nI (160 * x.toNatClampNeg) + nI j).toNatClampNeg = 160 * x.toNatClampNeg + j := by rw [e1, nI_clamp (by omega)]
      have hin : vp_in (nI (160 * x.toNatClampNeg) + nI j) 1280 := by rw [e1]; exact vp_in_nI (by omega) (by omega)
      refine nm_r (vx_160 hv) ⟨hv, br_f hk15 ⟨hv, nm_r hyp ⟨hv, br_f ?_ (nm_e ⟨1, hv, br_f hk14 ⟨hin, nm_r (e' := hd (150 * x.toNatClampNeg + j)) ?_ ⟨hin, nm_r (e' := yk (160 * x.toNatClampNeg + j)) (by rw [e2]) ⟨1, hv, br_t ?_ ⟨hv, ?_, nm_r (e' := yh) ?_ ⟨hv, ?_, nm_r (e' := yk) ?_ ⟨hv, hv, nm_r (e' := upd pc x.toNatClampNeg (nI (j + 1))) ?_ hp⟩⟩⟩⟩⟩⟩⟩)⟩⟩⟩
      · rw [hho, nI_eq (by omega) (by omega)]; omega
      · rw [e2, hval]
      · rw [hyp]; exact Int32.le_refl _
      · rw [hyp]; exact hin
      · rw [hyp, e2, hval, upd_self]
      · rw [hyp]; exact hin
      · rw [hyp, e2, upd_self]
      · rw [hyp, nI_1]
    · refine ⟨hbb, j + 1, by omega, ?_, ?_, pk_us, fun z => absurd z (by omega), fun _ => by rw [pk_us, hxc, nI_1], fun i hi => heq i (by omega)⟩
      · rw [hhc]; exact congrArg nI (by omega)
      · rw [hho]; exact congrArg nI (by omega)
theorem so_find (hv : vp_in x 8) (hk0 : kd x.toNatClampNeg = nI 14) {j rr : Nat} (hj : rr + j ≤ 150) (hho : ho x.toNatClampNeg = nI (rr + j)) :
    ∀ (d c p : Nat), c + d = rr → p < c → (∀ i, i < p → yk (160 * x.toNatClampNeg + j + p) < yk (160 * x.toNatClampNeg + j + i)) → (∀ i, p ≤ i → i < c → yk (160 * x.toNatClampNeg + j + p) ≤ yk (160 * x.toNatClampNeg + j + i)) →
    ∃ p' : Nat, p' < rr ∧ (∀ i, i < p' → yk (160 * x.toNatClampNeg + j + p') < yk (160 * x.toNatClampNeg + j + i)) ∧ (∀ i, p' ≤ i → i < rr → yk (160 * x.toNatClampNeg + j + p') ≤ yk (160 * x.toNatClampNeg + j + i)) ∧
      ∀ (post : Int32 → SY → Prop) (nf : Nat), d < nf → wY_release_127 post x (nI (160 * x.toNatClampNeg)) (nI (j + p')) lm sr sc wy sp ya se fl vv vt ot ra br oc it le tk cn kd nu lf la pc yb yh yk ho ap rd si vs os → wY_release_76 post x (nI (160 * x.toNatClampNeg)) lm sr sc wy sp ya se fl vv vt ot ra br oc it le tk cn kd nu lf la pc yb yh yk ho ap rd si vs os nf (nI (j + p)) (nI (j + c)) := by
  have h8 := (vx_n hv).2
  have hk14 : kd x.toNatClampNeg = 14 := hk0
  intro d
  induction d with
  | zero =>
    intro c p hc1 hp h1 h2
    have : c = rr := by omega
    subst this
    refine ⟨p, hp, h1, h2, fun post nf hf h => ?_⟩
    obtain ⟨f, rfl⟩ : ∃ f, nf = f + 1 := ⟨nf - 1, by omega⟩
    exact ⟨hv, br_t hk14 ⟨hv, br_t (by rw [hho, nI_leI (by omega) (by omega)]; omega) h⟩⟩
  | succ d IH =>
    intro c p hc1 hp h1 h2
    have e1 : nI (160 * x.toNatClampNeg) + nI (j + c) = nI (160 * x.toNatClampNeg + j + c) := by rw [nI_add]; exact congrArg nI (by omega)
    have e2 : nI (160 * x.toNatClampNeg) + nI (j + p) = nI (160 * x.toNatClampNeg + j + p) := by rw [nI_add]; exact congrArg nI (by omega)
    have hin1 : vp_in (nI (160 * x.toNatClampNeg) + nI (j + c)) 1280 := by rw [e1]; exact vp_in_nI (by omega) (by omega)
    have hin2 : vp_in (nI (160 * x.toNatClampNeg) + nI (j + p)) 1280 := by rw [e2]; exact vp_in_nI (by omega) (by omega)
    have f1 : (nI (160 * x.toNatClampNeg) + nI (j + c)).toNatClampNeg = 160 * x.toNatClampNeg + j + c := by rw [e1, nI_clamp (by omega)]
    have f2 : (nI (160 * x.toNatClampNeg) + nI (j + p)).toNatClampNeg = 160 * x.toNatClampNeg + j + p := by rw [e2, nI_clamp (by omega)]
    have hnle : ¬ ho x.toNatClampNeg ≤ nI (j + c) := by rw [hho]; exact nI_ge (by omega) (by omega)
    by_cases hle : yk (160 * x.toNatClampNeg + j + p) ≤ yk (160 * x.toNatClampNeg + j + c)
    · obtain ⟨p', g1, g2, g3, g4⟩ := IH (c + 1) p (by omega) (by omega) h1 (fun i hi1 hi2 => by
        by_cases ei : i = c
        · rw [ei]; exact hle
        · exact h2 i hi1 (by omega))
      refine ⟨p', g1, g2, g3, fun post nf hf h => ?_⟩
      obtain ⟨f, rfl⟩ : ∃ f, nf = f + 1 := ⟨nf - 1, by omega⟩
      exact ⟨hv, br_t hk14 ⟨hv, br_f hnle ⟨hin1, hin2, br_t (by rw [f1, f2]; exact hle) (nm_r (nI_1 _) (g4 post f (by omega) h))⟩⟩⟩
    · have hgt : yk (160 * x.toNatClampNeg + j + c) < yk (160 * x.toNatClampNeg + j + p) := Int32.not_le.mp hle
      obtain ⟨p', g1, g2, g3, g4⟩ := IH (c + 1) c (by omega) (by omega) (fun i hi => by
        by_cases hip : i < p
        · exact Int32.lt_trans hgt (h1 i hip)
        · exact Int32.lt_of_lt_of_le hgt (h2 i (by omega) hi)) (fun i hi1 hi2 => by
        have : i = c := by omega
        rw [this]; exact Int32.le_refl _)
      refine ⟨p', g1, g2, g3, fun post nf hf h => ?_⟩
      obtain ⟨f, rfl⟩ : ∃ f, nf = f + 1 := ⟨nf - 1, by omega⟩
      exact ⟨hv, br_t hk14 ⟨hv, br_f hnle ⟨hin1, hin2, br_f (by rw [f1, f2]; exact hle) (nm_r (nI_1 _) (g4 post f (by omega) h))⟩⟩⟩
theorem so_shift (hv : vp_in x 8) {j p : Nat} (hj : j + p < 150) (hyp : pc x.toNatClampNeg = nI j) (key : Int32) (yh yk : Nat → Int32) :
    ∀ (c : Nat) (yh1 yk1 : Nat → Int32), c ≤ p → (∀ i, c ≤ i → i < p → yh1 (160 * x.toNatClampNeg + j + i + 1) = yh (160 * x.toNatClampNeg + j + i) ∧ yk1 (160 * x.toNatClampNeg + j + i + 1) = yk (160 * x.toNatClampNeg + j + i)) → (∀ a, (a ≤ 160 * x.toNatClampNeg + j + c ∨ 160 * x.toNatClampNeg + j + p < a) → yh1 a = yh a ∧ yk1 a = yk a) →
    ∃ yh2 yk2 : Nat → Int32, (∀ i, i < p → yh2 (160 * x.toNatClampNeg + j + i + 1) = yh (160 * x.toNatClampNeg + j + i) ∧ yk2 (160 * x.toNatClampNeg + j + i + 1) = yk (160 * x.toNatClampNeg + j + i)) ∧ (∀ a, (a < 160 * x.toNatClampNeg + j ∨ 160 * x.toNatClampNeg + j + p < a) → yh2 a = yh a ∧ yk2 a = yk a) ∧
      ∀ (post : Int32 → SY → Prop) (nf : Nat), c < nf → post 1 (lm, sr, sc, wy, sp, ya, se, fl, vv, vt, ot, ra, br, oc, it, le, tk, cn, kd, nu, lf, la, upd pc x.toNatClampNeg (nI (j + 1)), yb, yh2, yk2, ho, ap, rd, si, vs, os) → wY_release_152 post x (nI (160 * x.toNatClampNeg)) key lm sr sc wy sp ya se fl vv vt ot ra br oc nf (nI (j + c)) it le tk cn kd nu lf la pc yb yh1 yk1 ho ap rd si vs os := by
  have h8 := (vx_n hv).2
  intro c
  induction c with
  | zero =>
    intro yh1 yk1 hc1 h1 h2
    have e1 : nI (160 * x.toNatClampNeg) + nI j = nI (160 * x.toNatClampNeg + j) := nI_add _ _
    have f1 : (nI (160 * x.toNatClampNeg) + nI j).toNatClampNeg = 160 * x.toNatClampNeg + j := by rw [e1, nI_clamp (by omega)]
    have hin : vp_in (nI (160 * x.toNatClampNeg) + pc x.toNatClampNeg) 1280 := by rw [hyp, e1]; exact vp_in_nI (by omega) (by omega)
    refine ⟨upd yh1 (160 * x.toNatClampNeg + j) vv, upd yk1 (160 * x.toNatClampNeg + j) key, fun i hi => ?_, fun a ha => ?_, fun post nf hf hp => ?_⟩
    · rw [pk_un (by omega), pk_un (by omega)]; exact h1 i (by omega) hi
    · rw [pk_un (by omega), pk_un (by omega)]; exact h2 a (by omega)
    · obtain ⟨f, rfl⟩ : ∃ f, nf = f + 1 := ⟨nf - 1, by omega⟩
      exact ⟨hv, br_t (by rw [hyp]; exact Int32.le_refl _) ⟨hv, hin, nm_r (by rw [hyp, f1]) ⟨hv, hin, nm_r (by rw [hyp, f1]) ⟨hv, hv, nm_r (by rw [hyp, nI_1]) hp⟩⟩⟩⟩
  | succ c IH =>
    intro yh1 yk1 hc1 h1 h2
    have e1 : nI (160 * x.toNatClampNeg) + nI (j + (c + 1)) = nI (160 * x.toNatClampNeg + j + c + 1) := by rw [nI_add]; exact congrArg nI (by omega)
    have f1 : (nI (160 * x.toNatClampNeg) + nI (j + (c + 1))).toNatClampNeg = 160 * x.toNatClampNeg + j + c + 1 := by rw [e1, nI_clamp (by omega)]
    have e0 : nI (160 * x.toNatClampNeg) + nI (j + (c + 1)) - 1 = nI (160 * x.toNatClampNeg + j + c) := by rw [e1, nI_pred]
    have f0 : (nI (160 * x.toNatClampNeg) + nI (j + (c + 1)) - 1).toNatClampNeg = 160 * x.toNatClampNeg + j + c := by rw [e0, nI_clamp (by omega)]
    have hin1 : vp_in (nI (160 * x.toNatClampNeg) + nI (j + (c + 1))) 1280 := by rw [e1]; exact vp_in_nI (by omega) (by omega)
    have hin0 : vp_in (nI (160 * x.toNatClampNeg) + nI (j + (c + 1)) - 1) 1280 := by rw [e0]; exact vp_in_nI (by omega) (by omega)
    have hold := h2 (160 * x.toNatClampNeg + j + c) (by omega)
    obtain ⟨yh2, yk2, g1, g2, g3⟩ := IH (upd yh1 (160 * x.toNatClampNeg + j + c + 1) (yh (160 * x.toNatClampNeg + j + c))) (upd yk1 (160 * x.toNatClampNeg + j + c + 1) (yk (160 * x.toNatClampNeg + j + c))) (by omega) (fun i hi1 hi2 => by
      by_cases ei : i = c
      · subst ei; rw [pk_us, pk_us]; exact ⟨rfl, rfl⟩
      · rw [pk_un (by omega), pk_un (by omega)]; exact h1 i (by omega) hi2) (fun a ha => by
      rw [pk_un (by omega), pk_un (by omega)]; exact h2 a (by omega))
    refine ⟨yh2, yk2, g1, g2, fun post nf hf hp => ?_⟩
    obtain ⟨f, rfl⟩ : ∃ f, nf = f + 1 := ⟨nf - 1, by omega⟩
    refine ⟨hv, br_f ?_ ⟨hin0, hin1, nm_r ?_ ⟨hin0, hin1, nm_r ?_ (nm_r ?_ (g3 post f (by omega) hp))⟩⟩⟩
    · rw [hyp, nI_leI (by omega) (by omega)]; omega
    · rw [f0, f1, hold.1]
    · rw [f0, f1, hold.2]
    · exact pk_m1 (j + c)
theorem so_in (hkd : ∀ t, t < S → (kd t).toNatClampNeg ≤ 16) (hS : S ≤ 8) (hL : L ≤ 150) (hs : s < S) (hv : vp_in x 8) (hx : x.toNatClampNeg = s) (h : dd_D S L m le kd nu g e r b 0 (s + 1) q sn ya bg ct ls hd hk hc lf la pc yb yh yk ho) (hk0 : kd s = nI 14) (hb : b s = 1) :
    ∃ (act : Int32) (u1 : SX) (v1 : SY), (∀ post : SX → Prop, post u1 → wpX_stageAsked post (nI L, pn, wp, nI m, nI S, se, fl, nI q, 0, nI s, 0, el, rs, sn, it, le, pe, op, kd, nu, co, cl, ap, rd, si, bg, ct, ls, hd, hk, hc, vl) x) ∧ (∀ post : Int32 → SY → Prop, post act v1 → wpY_release post (nI L, nI m, nI S, wy, nI q, ya, se, fl, vv, vt, ot, ra, br, oc, it, le, tk, cn, kd, nu, lf, la, pc, yb, yh, yk, ho, ap, rd, si, vs, os) x) ∧ rr_N pn wp se wy ra it le pe op kd nu co cl si tk cn L S m (rn_P S g b 0 (s + 1)) (s + 1) act u1 v1 := by
  have hT := dd_get h hs hk0 (by omega)
  have hkc : (kd s).toNatClampNeg = 14 := by rw [hk0]; exact nI_clamp (by omega)
  obtain ⟨hbb, j, hj, hhc, hho, hyp, _, hb1, hsort⟩ := hT
  have hxc := hb1 hb
  have hxb : bg s = 1 := by rcases hbb.2 with ⟨z, _⟩ | ⟨_, z⟩; omega; exact z
  have hx1 : ¬ bg s = 0 := by rw [hxb]; decide
  have hs8 : s < 8 := by omega
  have hk15 : ¬ kd s = 15 := by rw [hk0]; decide
  cases hr : r s with
  | zero =>
    rw [hr, Nat.zero_add] at hhc hho
    refine ⟨0, (nI L, pn, wp, nI m, nI S, se, fl, nI q, 0, nI (s + 1), 2, el, rs, sn, it, le, pe, op, kd, nu, co, cl, ap, rd, si, bg, ct, ls, hd, hk, hc, vl), (nI L, nI m, nI S, wy, nI q, ya, se, fl, vv, vt, ot, ra, br, oc, it, le, tk, cn, kd, nu, lf, la, pc, yb, yh, yk, ho, ap, rd, si, vs, os), fun post hp => ?_, fun post hp => ?_, md_end hkd hS hs h (k := 14) fr_id (Or.inl rfl) (Nat.le_refl _) h.1 hkc (fun P' hP => dd_mono (by omega) (Nat.le_of_lt hP) (dd_get h hs hk0 (by omega)))⟩
    · subst hx
      exact ⟨hv, nm_r hk0 (br_f (by decide) (br_f (by decide) (br_f (by decide) (br_f (by decide) (br_f (by decide) (br_f (by decide) (br_f (by decide) (br_f (by decide) (br_f (by decide) (br_f (by decide) (br_f (by decide) (br_f (by decide) (br_f (by decide) (br_f (by decide) (br_t rfl (⟨hv, nm_r hxc ⟨hv, br_f hx1 ⟨hv, br_f (by rw [hhc]; exact Int32.lt_irrefl) (xr_end hp)⟩⟩⟩))))))))))))))))⟩
    · subst hx
      exact nm_e ⟨hv, br_f hk15 ⟨hv, nm_r hyp ⟨hv, br_t (by rw [hho]) hp⟩⟩⟩
  | succ r0 =>
    rw [hr] at hj hhc hho hsort
    have hlt : nI j < nI (r0 + 1 + j) := nI_lt (by omega) (by omega)
    subst hx
    obtain ⟨p, p1, p2, p3, p4⟩ := so_find (wy := wy) (ya := ya) (se := se) (fl := fl) (vv := vv) (vt := vt) (ot := ot) (ra := ra) (br := br) (oc := oc) (it := it) (le := le) (tk := tk) (cn := cn) (kd := kd) (nu := nu) (lf := lf) (la := la) (pc := pc) (yb := yb) (yh := yh) (yk := yk) (ho := ho) (ap := ap) (rd := rd) (si := si) (vs := vs) (os := os) (lm := nI L) (sr := nI m) (sc := nI S) (sp := nI q) hv hk0 hj hho r0 1 0 (by omega) (by omega) (fun i hi => absurd hi (by omega)) (fun i hi1 hi2 => by
      have : i = 0 := by omega
      rw [this]; exact Int32.le_refl _)
    obtain ⟨yh2, yk2, t1, t2, t3⟩ := so_shift (wy := wy) (ya := ya) (se := se) (fl := fl) (vt := vt) (ot := ot) (ra := ra) (br := br) (oc := oc) (it := it) (le := le) (tk := tk) (cn := cn) (kd := kd) (nu := nu) (lf := lf) (la := la) (pc := pc) (yb := yb) (ho := ho) (ap := ap) (rd := rd) (si := si) (vs := vs) (os := os) (lm := nI L) (sr := nI m) (sc := nI S) (sp := nI q) (vv := yh (160 * x.toNatClampNeg + j + p)) hv (by omega) hyp (yk (160 * x.toNatClampNeg + j + p)) yh yk p yh yk (Nat.le_refl _) (fun i h1 h2 => absurd h2 (by omega)) (fun _ _ => ⟨rfl, rfl⟩)
    -- the mathematics
    have hmath := ls_take (fun i => (rn_sl yk 160 x.toNatClampNeg (j + i), rn_sl yh 160 x.toNatClampNeg (j + i))) (fun i => (rn_sl yk2 160 x.toNatClampNeg (j + 1 + i), rn_sl yh2 160 x.toNatClampNeg (j + 1 + i))) _ r0 p p1
      (fun i hi => by
        try dsimp only
        rw [rn_sl_at (by omega), rn_sl_at (by omega), ← Nat.add_assoc, ← Nat.add_assoc]; exact p2 i hi)
      (fun i hi1 hi2 => by
        try dsimp only
        rw [rn_sl_at (by omega), rn_sl_at (by omega), ← Nat.add_assoc, ← Nat.add_assoc]; exact p3 i hi1 hi2)
      (fun i hi => by
        try dsimp only
        rw [rn_sl_at (by omega), rn_sl_at (by omega), rn_sl_at (by omega), rn_sl_at (by omega)]
        have := t1 i hi
        rw [show 160 * x.toNatClampNeg + (j + 1 + i) = 160 * x.toNatClampNeg + j + i + 1 from by omega, show 160 * x.toNatClampNeg + (j + i) = 160 * x.toNatClampNeg + j + i from by omega, this.1, this.2])
      (fun i hi1 hi2 => by
        try dsimp only
        rw [rn_sl_at (by omega), rn_sl_at (by omega), rn_sl_at (by omega), rn_sl_at (by omega)]
        have := t2 (160 * x.toNatClampNeg + (j + 1 + i)) (by omega)
        rw [this.1, this.2, show j + 1 + i = j + (i + 1) from by omega])
      _ _ (show ls_l (fun i => (rn_sl hk 150 x.toNatClampNeg (j + i), rn_sl hd 150 x.toNatClampNeg (j + i))) (r0 + 1) = _ from rfl) hsort
    have hval : hd (150 * x.toNatClampNeg + j) = yh (160 * x.toNatClampNeg + j + p) := by
      have := congrArg Prod.snd hmath.1
      dsimp only at this
      rw [rn_sl_at (by omega), rn_sl_at (by omega)] at this
      rw [Nat.add_assoc]
      exact this
    refine ⟨1, (nI L, pn, wp, nI m, nI S, se, fl, nI q, 0, nI (x.toNatClampNeg + 1), 1, hd (150 * x.toNatClampNeg + j), rs, sn, it, le, pe, op, kd, nu, co, cl, ap, rd, si, bg, upd ct x.toNatClampNeg (ct x.toNatClampNeg + 1), ls, hd, hk, hc, vl), (nI L, nI m, nI S, wy, nI q, ya, se, fl, hd (150 * x.toNatClampNeg + j), vt, ot, ra, br, oc, it, le, tk, cn, kd, nu, lf, la, upd pc x.toNatClampNeg (nI (j + 1)), yb, yh2, yk2, ho, ap, rd, si, vs, os), fun post hp => ?_, fun post hp => ?_, md_give _ hkd hS hs h (k := 14) (r1 := r0) ⟨fun t ht => by simp [pk_un ht], fun i hi => ⟨rfl, rfl⟩, fun i hi => t2 i (by omega)⟩ (Or.inl rfl) (Or.inl (by omega)) (Nat.le_refl _) h.1 hkc (fun P' hP => ?_)⟩
    · exact ⟨hv, nm_r hk0 (br_f (by decide) (br_f (by decide) (br_f (by decide) (br_f (by decide) (br_f (by decide) (br_f (by decide) (br_f (by decide) (br_f (by decide) (br_f (by decide) (br_f (by decide) (br_f (by decide) (br_f (by decide) (br_f (by decide) (br_f (by decide) (br_t rfl (⟨hv, nm_r hxc ⟨hv, br_f hx1 ⟨hv, br_t (by rw [hhc]; exact hlt) ⟨hv, br_f hk15 (br_t rfl (xg_75 hv (by omega) hp))⟩⟩⟩⟩))))))))))))))))⟩
    · have e1 : nI (160 * x.toNatClampNeg) + nI (j + p) = nI (160 * x.toNatClampNeg + j + p) := by rw [nI_add]; exact congrArg nI (by omega)
      have f1 : (nI (160 * x.toNatClampNeg) + nI (j + p)).toNatClampNeg = 160 * x.toNatClampNeg + j + p := by rw [e1, nI_clamp (by omega)]
      have hin : vp_in (nI (160 * x.toNatClampNeg) + nI (j + p)) 1280 := by rw [e1]; exact vp_in_nI (by omega) (by omega)
      rw [hval] at hp
      refine nm_r (vx_160 hv) ⟨hv, br_f hk15 ⟨hv, nm_r hyp ⟨hv, br_f ?_ (nm_r (nI_1 _) ⟨_, p4 post _ (Nat.lt_succ_self _) ⟨hin, nm_r (e' := yh (160 * x.toNatClampNeg + j + p)) (by rw [f1]) ⟨hin, nm_r (e' := yk (160 * x.toNatClampNeg + j + p)) (by rw [f1]) ⟨_, t3 post _ (Nat.lt_succ_self _) hp⟩⟩⟩⟩)⟩⟩⟩
      rw [hho, nI_eq (by omega) (by omega)]; omega
    · refine ⟨hbb, j + 1, by omega, ?_, ?_, pk_us, fun z => absurd z (by omega), fun _ => by rw [pk_us, hxc, nI_1], ?_⟩
      · rw [hhc]; exact congrArg nI (by omega)
      · rw [hho]; exact congrArg nI (by omega)
      · have e : ls_l (fun i => (rn_sl hk 150 x.toNatClampNeg (j + 1 + i), rn_sl hd 150 x.toNatClampNeg (j + 1 + i))) r0 = ls_l (fun i => (rn_sl hk 150 x.toNatClampNeg (j + (i + 1)), rn_sl hd 150 x.toNatClampNeg (j + (i + 1)))) r0 := ls_congr _ _ _ (fun i _ => by rw [show j + 1 + i = j + (i + 1) from by omega])
        rw [e]
        exact hmath.2
theorem as_15 (hkd : ∀ t, t < S → (kd t).toNatClampNeg ≤ 16) (hS : S ≤ 8) (hL : L ≤ 150) (hs : s < S) (hv : vp_in x 8) (hx : x.toNatClampNeg = s) (h : dd_D S L m le kd nu g e r b 0 (s + 1) q sn ya bg ct ls hd hk hc lf la pc yb yh yk ho) (hk0 : kd s = nI 15) : ∃ (act : Int32) (u1 : SX) (v1 : SY), (∀ post : SX → Prop, post u1 → wpX_stageAsked post (nI L, pn, wp, nI m, nI S, se, fl, nI q, 0, nI s, 0, el, rs, sn, it, le, pe, op, kd, nu, co, cl, ap, rd, si, bg, ct, ls, hd, hk, hc, vl) x) ∧ (∀ post : Int32 → SY → Prop, post act v1 → wpY_asked post (nI L, nI m, nI S, wy, nI q, ya, se, fl, vv, vt, ot, ra, br, oc, it, le, tk, cn, kd, nu, lf, la, pc, yb, yh, yk, ho, ap, rd, si, vs, os) x) ∧ rr_N pn wp se wy ra it le pe op kd nu co cl si tk cn L S m (rn_P S g b 0 (s + 1)) (s + 1) act u1 v1 := by
  have hT := dd_get h hs hk0 (by omega)
  obtain ⟨hbb, _⟩ := hT
  rcases hbb.2 with ⟨b0, x0⟩ | ⟨b1, x1⟩
  · refine as_ask hkd hS hL hs hv hx h hk0 (by omega) (fun z => b0) (fun post hp => ?_) (fun post hp => ?_)
    all_goals subst hx
    · exact ⟨hv, nm_r hk0 (br_f (by decide) (br_f (by decide) (br_f (by decide) (br_f (by decide) (br_f (by decide) (br_f (by decide) (br_f (by decide) (br_f (by decide) (br_f (by decide) (br_f (by decide) (br_f (by decide) (br_f (by decide) (br_f (by decide) (br_f (by decide) (br_f (by decide) (br_t rfl (⟨hv, nm_e ⟨hv, br_t x0 (xr_ask hp)⟩⟩)))))))))))))))))⟩
    · exact ⟨hv, nm_r hk0 (br_f (by decide) (br_f (by decide) (br_f (by decide) (br_f (by decide) (br_f (by decide) (br_f (by decide) (br_f (by decide) (br_f (by decide) (br_f (by decide) (br_f (by decide) (br_f (by decide) (br_f (by decide) (br_f (by decide) (br_f (by decide) (br_f (by decide) (br_t rfl (⟨hv, br_t (by rw [← hbb.1]; exact x0) hp⟩)))))))))))))))))⟩
  · obtain ⟨act, u1, v1, w1, w2, w3⟩ := rv_in (pn := pn) (wp := wp) (se := se) (fl := fl) (el := el) (rs := rs) (sn := sn) (it := it) (le := le) (pe := pe) (op := op) (kd := kd) (nu := nu) (co := co) (cl := cl) (ap := ap) (rd := rd) (si := si) (bg := bg) (ct := ct) (ls := ls) (hd := hd) (hk := hk) (hc := hc) (vl := vl) (wy := wy) (ya := ya) (vv := vv) (vt := vt) (ot := ot) (ra := ra) (br := br) (oc := oc) (tk := tk) (cn := cn) (lf := lf) (la := la) (pc := pc) (yb := yb) (yh := yh) (yk := yk) (ho := ho) (vs := vs) (os := os) hkd hS hL hs hv hx h hk0 b1
    refine ⟨act, u1, v1, w1, fun post hp => ?_, w3⟩
    subst hx
    exact ⟨hv, nm_r hk0 (br_f (by decide) (br_f (by decide) (br_f (by decide) (br_f (by decide) (br_f (by decide) (br_f (by decide) (br_f (by decide) (br_f (by decide) (br_f (by decide) (br_f (by decide) (br_f (by decide) (br_f (by decide) (br_f (by decide) (br_f (by decide) (br_f (by decide) (br_t rfl (⟨hv, br_f (by rw [← hbb.1, x1]; decide) (w2 _ (sy_eta hp))⟩)))))))))))))))))⟩
theorem as_16 (hkd : ∀ t, t < S → (kd t).toNatClampNeg ≤ 16) (hS : S ≤ 8) (hL : L ≤ 150) (hs : s < S) (hv : vp_in x 8) (hx : x.toNatClampNeg = s) (h : dd_D S L m le kd nu g e r b 0 (s + 1) q sn ya bg ct ls hd hk hc lf la pc yb yh yk ho) (hk0 : kd s = nI 16) : ∃ (act : Int32) (u1 : SX) (v1 : SY), (∀ post : SX → Prop, post u1 → wpX_stageAsked post (nI L, pn, wp, nI m, nI S, se, fl, nI q, 0, nI s, 0, el, rs, sn, it, le, pe, op, kd, nu, co, cl, ap, rd, si, bg, ct, ls, hd, hk, hc, vl) x) ∧ (∀ post : Int32 → SY → Prop, post act v1 → wpY_asked post (nI L, nI m, nI S, wy, nI q, ya, se, fl, vv, vt, ot, ra, br, oc, it, le, tk, cn, kd, nu, lf, la, pc, yb, yh, yk, ho, ap, rd, si, vs, os) x) ∧ rr_N pn wp se wy ra it le pe op kd nu co cl si tk cn L S m (rn_P S g b 0 (s + 1)) (s + 1) act u1 v1 := by
  have hT := dd_get h hs hk0 (by omega)
  obtain ⟨hbb, _⟩ := hT
  rcases hbb.2 with ⟨b0, x0⟩ | ⟨b1, x1⟩
  · refine as_ask hkd hS hL hs hv hx h hk0 (by omega) (fun z => b0) (fun post hp => ?_) (fun post hp => ?_)
    all_goals subst hx
    · exact ⟨hv, nm_r hk0 (br_f (by decide) (br_f (by decide) (br_f (by decide) (br_f (by decide) (br_f (by decide) (br_f (by decide) (br_f (by decide) (br_f (by decide) (br_f (by decide) (br_f (by decide) (br_f (by decide) (br_f (by decide) (br_f (by decide) (br_f (by decide) (br_f (by decide) (br_f (by decide) (br_t rfl (⟨hv, nm_e ⟨hv, br_t x0 (xr_ask hp)⟩⟩))))))))))))))))))⟩
    · exact ⟨hv, nm_r hk0 (br_f (by decide) (br_f (by decide) (br_f (by decide) (br_f (by decide) (br_f (by decide) (br_f (by decide) (br_f (by decide) (br_f (by decide) (br_f (by decide) (br_f (by decide) (br_f (by decide) (br_f (by decide) (br_f (by decide) (br_f (by decide) (br_f (by decide) (br_f (by decide) (br_t rfl (⟨hv, br_t (by rw [← hbb.1]; exact x0) hp⟩))))))))))))))))))⟩
  · obtain ⟨act, u1, v1, w1, w2, w3⟩ := gr_in (pn := pn) (wp := wp) (se := se) (fl := fl) (el := el) (rs := rs) (sn := sn) (it := it) (le := le) (pe := pe) (op := op) (kd := kd) (nu := nu) (co := co) (cl := cl) (ap := ap) (rd := rd) (si := si) (bg := bg) (ct := ct) (ls := ls) (hd := hd) (hk := hk) (hc := hc) (vl := vl) (wy := wy) (ya := ya) (vv := vv) (vt := vt) (ot := ot) (ra := ra) (br := br) (oc := oc) (tk := tk) (cn := cn) (lf := lf) (la := la) (pc := pc) (yb := yb) (yh := yh) (yk := yk) (ho := ho) (vs := vs) (os := os) hkd hS hL hs hv hx h hk0 b1
    refine ⟨act, u1, v1, w1, fun post hp => ?_, w3⟩
    subst hx
    exact ⟨hv, nm_r hk0 (br_f (by decide) (br_f (by decide) (br_f (by decide) (br_f (by decide) (br_f (by decide) (br_f (by decide) (br_f (by decide) (br_f (by decide) (br_f (by decide) (br_f (by decide) (br_f (by decide) (br_f (by decide) (br_f (by decide) (br_f (by decide) (br_f (by decide) (br_f (by decide) (br_t rfl (⟨hv, br_f (by rw [← hbb.1, x1]; decide) (w2 _ (sy_eta hp))⟩))))))))))))))))))⟩
theorem as_14 (hkd : ∀ t, t < S → (kd t).toNatClampNeg ≤ 16) (hS : S ≤ 8) (hL : L ≤ 150) (hs : s < S) (hv : vp_in x 8) (hx : x.toNatClampNeg = s) (h : dd_D S L m le kd nu g e r b 0 (s + 1) q sn ya bg ct ls hd hk hc lf la pc yb yh yk ho) (hk0 : kd s = nI 14) : ∃ (act : Int32) (u1 : SX) (v1 : SY), (∀ post : SX → Prop, post u1 → wpX_stageAsked post (nI L, pn, wp, nI m, nI S, se, fl, nI q, 0, nI s, 0, el, rs, sn, it, le, pe, op, kd, nu, co, cl, ap, rd, si, bg, ct, ls, hd, hk, hc, vl) x) ∧ (∀ post : Int32 → SY → Prop, post act v1 → wpY_asked post (nI L, nI m, nI S, wy, nI q, ya, se, fl, vv, vt, ot, ra, br, oc, it, le, tk, cn, kd, nu, lf, la, pc, yb, yh, yk, ho, ap, rd, si, vs, os) x) ∧ rr_N pn wp se wy ra it le pe op kd nu co cl si tk cn L S m (rn_P S g b 0 (s + 1)) (s + 1) act u1 v1 := by
  have hT := dd_get h hs hk0 (by omega)
  obtain ⟨hbb, _⟩ := hT
  rcases hbb.2 with ⟨b0, x0⟩ | ⟨b1, x1⟩
  · refine as_ask hkd hS hL hs hv hx h hk0 (by omega) (fun z => b0) (fun post hp => ?_) (fun post hp => ?_)
    all_goals subst hx
    · exact ⟨hv, nm_r hk0 (br_f (by decide) (br_f (by decide) (br_f (by decide) (br_f (by decide) (br_f (by decide) (br_f (by decide) (br_f (by decide) (br_f (by decide) (br_f (by decide) (br_f (by decide) (br_f (by decide) (br_f (by decide) (br_f (by decide) (br_f (by decide) (br_t rfl (⟨hv, nm_e ⟨hv, br_t x0 (xr_ask hp)⟩⟩))))))))))))))))⟩
    · exact ⟨hv, nm_r hk0 (br_f (by decide) (br_f (by decide) (br_f (by decide) (br_f (by decide) (br_f (by decide) (br_f (by decide) (br_f (by decide) (br_f (by decide) (br_f (by decide) (br_f (by decide) (br_f (by decide) (br_f (by decide) (br_f (by decide) (br_f (by decide) (br_t rfl (⟨hv, br_t (by rw [← hbb.1]; exact x0) hp⟩))))))))))))))))⟩
  · obtain ⟨act, u1, v1, w1, w2, w3⟩ := so_in (pn := pn) (wp := wp) (se := se) (fl := fl) (el := el) (rs := rs) (sn := sn) (it := it) (le := le) (pe := pe) (op := op) (kd := kd) (nu := nu) (co := co) (cl := cl) (ap := ap) (rd := rd) (si := si) (bg := bg) (ct := ct) (ls := ls) (hd := hd) (hk := hk) (hc := hc) (vl := vl) (wy := wy) (ya := ya) (vv := vv) (vt := vt) (ot := ot) (ra := ra) (br := br) (oc := oc) (tk := tk) (cn := cn) (lf := lf) (la := la) (pc := pc) (yb := yb) (yh := yh) (yk := yk) (ho := ho) (vs := vs) (os := os) hkd hS hL hs hv hx h hk0 b1
    refine ⟨act, u1, v1, w1, fun post hp => ?_, w3⟩
    subst hx
    exact ⟨hv, nm_r hk0 (br_f (by decide) (br_f (by decide) (br_f (by decide) (br_f (by decide) (br_f (by decide) (br_f (by decide) (br_f (by decide) (br_f (by decide) (br_f (by decide) (br_f (by decide) (br_f (by decide) (br_f (by decide) (br_f (by decide) (br_f (by decide) (br_t rfl (⟨hv, br_f (by rw [← hbb.1, x1]; decide) (w2 _ (sy_eta hp))⟩))))))))))))))))⟩
end
