def zr_z (f : Nat → Int32) : Nat → (Nat → Int32)
  | 0 => f
  | n + 1 => upd (zr_z f n) n 0
theorem zr_0 (f : Nat → Int32) : ∀ (n t : Nat), t < n → zr_z f n t = 0
  | 0, t, h => absurd h (by omega)
  | n + 1, t, h => by
    simp only [zr_z]
    by_cases e : t = n
    · subst e; rw [pk_us]
    · rw [pk_un e]; exact zr_0 f n t (by omega)
section
variable {lm pn wp sr sc se fl sp pt sg el rs sn wy ya vv vt ot ra br : Int32} {en oc : Int64} {it le pe op kd nu co cl ap rd si bg ct ls hd hk hc vl tk cn lf la pc yb yh yk ho vs os : Nat → Int32}
variable {bg' ct' ls' hd' hk' hc' lf' la' pc' yb' yh' yk' ho' : Nat → Int32} {S L m q s sgn k : Nat} {g e r b : Nat → Nat} {x y : Int32}
theorem xr_start {post : SX → Prop} (hp : post (lm, pn, wp, sr, sc, 0, -1, 0, 0, pt, sg, el, rs, 0, it, le, pe, op, kd, nu, co, cl, zr_z ap 8, zr_z rd 3, si, zr_z bg 8, zr_z ct 8, ls, hd, hk, zr_z hc 8, vl)) : wpX_startRun post (lm, pn, wp, sr, sc, se, fl, sp, en, pt, sg, el, rs, sn, it, le, pe, op, kd, nu, co, cl, ap, rd, si, bg, ct, ls, hd, hk, hc, vl) := by
  have h47 : ∀ (d i nf : Nat), i + d = 8 → d < nf → wX_startRun_47 post lm pn wp sr sc 0 (-1) 0 0 pt sg el rs 0 nf (nI i) it le pe op kd nu co cl (zr_z ap i) (zr_z rd 3) si (zr_z bg i) (zr_z ct i) ls hd hk (zr_z hc i) vl := by
    intro d
    induction d with
    | zero =>
      intro i nf hi hf
      obtain ⟨f, rfl⟩ : ∃ f, nf = f + 1 := ⟨nf - 1, by omega⟩
      have : i = 8 := by omega
      subst this
      exact br_t (by decide) hp
    | succ d IH =>
      intro i nf hi hf
      obtain ⟨f, rfl⟩ : ∃ f, nf = f + 1 := ⟨nf - 1, by omega⟩
      have hv : vp_in (nI i) 8 := vp_in_nI (by omega) (by omega)
      have hcq : (nI i).toNatClampNeg = i := nI_clamp (by omega)
      refine br_f (nI_ge (b := 8) (by omega) (by decide)) ⟨hv, nm_r (e' := zr_z ap (i + 1)) (by rw [hcq]; rfl) ⟨hv, nm_r (e' := zr_z bg (i + 1)) (by rw [hcq, vn_0]; rfl) ⟨hv, nm_r (e' := zr_z ct (i + 1)) (by rw [hcq]; rfl) ⟨hv, nm_r (e' := zr_z hc (i + 1)) (by rw [hcq]; rfl) (nm_r (nI_1 i) (IH (i + 1) f (by omega) (by omega)))⟩⟩⟩⟩
  have h27 : ∀ (d i nf : Nat), i + d = 3 → d < nf → wX_startRun_27 post lm pn wp sr sc 0 (-1) 0 0 pt sg el rs 0 nf (nI i) it le pe op kd nu co cl ap (zr_z rd i) si bg ct ls hd hk hc vl := by
    intro d
    induction d with
    | zero =>
      intro i nf hi hf
      obtain ⟨f, rfl⟩ : ∃ f, nf = f + 1 := ⟨nf - 1, by omega⟩
      have : i = 3 := by omega
      subst this
      exact br_t (by decide) ⟨9, h47 8 0 9 (by omega) (by omega)⟩
    | succ d IH =>
      intro i nf hi hf
      obtain ⟨f, rfl⟩ : ∃ f, nf = f + 1 := ⟨nf - 1, by omega⟩
      have hv : vp_in (nI i) 3 := vp_in_nI (by omega) (by omega)
      have hcq : (nI i).toNatClampNeg = i := nI_clamp (by omega)
      exact br_f (nI_ge (b := 3) (by omega) (by decide)) ⟨hv, nm_r (e' := zr_z rd (i + 1)) (by rw [hcq]; rfl) (nm_r (nI_1 i) (IH (i + 1) f (by omega) (by omega)))⟩
  exact ⟨4, h27 3 0 4 (by omega) (by omega)⟩
theorem yr_begin {post : SY → Prop} (hp : post (lm, sr, sc, wy, 0, 0, 0, -1, vv, vt, ot, 1, br, oc, it, le, tk, cn, kd, nu, zr_z lf 8, zr_z la 8, zr_z pc 8, zr_z yb 8, yh, yk, zr_z ho 8, zr_z ap 8, zr_z rd 3, si, vs, os)) : wpY_begin post (lm, sr, sc, wy, sp, ya, se, fl, vv, vt, ot, ra, br, oc, it, le, tk, cn, kd, nu, lf, la, pc, yb, yh, yk, ho, ap, rd, si, vs, os) := by
  have h83 : ∀ (d i nf : Nat), i + d = 3 → d < nf → wY_begin_83 post lm sr sc wy 0 0 0 (-1) vv vt ot 1 br oc nf (nI i) it le tk cn kd nu (zr_z lf 8) (zr_z la 8) (zr_z pc 8) (zr_z yb 8) yh yk (zr_z ho 8) (zr_z ap 8) (zr_z rd i) si vs os := by
    intro d
    induction d with
    | zero =>
      intro i nf hi hf
      obtain ⟨f, rfl⟩ : ∃ f, nf = f + 1 := ⟨nf - 1, by omega⟩
      have : i = 3 := by omega
      subst this
      exact br_t (by decide) hp
    | succ d IH =>
      intro i nf hi hf
      obtain ⟨f, rfl⟩ : ∃ f, nf = f + 1 := ⟨nf - 1, by omega⟩
      have hv : vp_in (nI i) 3 := vp_in_nI (by omega) (by omega)
      have hcq : (nI i).toNatClampNeg = i := nI_clamp (by omega)
      exact br_f (nI_ge (b := 3) (by omega) (by decide)) ⟨hv, nm_r (e' := zr_z rd (i + 1)) (by rw [hcq]; rfl) (nm_r (nI_1 i) (IH (i + 1) f (by omega) (by omega)))⟩
  have h27 : ∀ (d i nf : Nat), i + d = 8 → d < nf → wY_begin_27 post lm sr sc wy 0 0 0 (-1) vv vt ot 1 br oc nf (nI i) it le tk cn kd nu (zr_z lf i) (zr_z la i) (zr_z pc i) (zr_z yb i) yh yk (zr_z ho i) (zr_z ap i) rd si vs os := by
    intro d
    induction d with
    | zero =>
      intro i nf hi hf
      obtain ⟨f, rfl⟩ : ∃ f, nf = f + 1 := ⟨nf - 1, by omega⟩
      have : i = 8 := by omega
      subst this
      exact br_t (by decide) ⟨4, h83 3 0 4 (by omega) (by omega)⟩
    | succ d IH =>
      intro i nf hi hf
      obtain ⟨f, rfl⟩ : ∃ f, nf = f + 1 := ⟨nf - 1, by omega⟩
      have hv : vp_in (nI i) 8 := vp_in_nI (by omega) (by omega)
      have hcq : (nI i).toNatClampNeg = i := nI_clamp (by omega)
      refine br_f (nI_ge (b := 8) (by omega) (by decide)) ⟨hv, nm_r (e' := zr_z lf (i + 1)) (by rw [hcq]; rfl) ⟨hv, nm_r (e' := zr_z la (i + 1)) (by rw [hcq]; rfl) ⟨hv, nm_r (e' := zr_z pc (i + 1)) (by rw [hcq]; rfl) ⟨hv, nm_r (e' := zr_z yb (i + 1)) (by rw [hcq, vn_0]; rfl) ⟨hv, nm_r (e' := zr_z ho (i + 1)) (by rw [hcq]; rfl) ⟨hv, nm_r (e' := zr_z ap (i + 1)) (by rw [hcq]; rfl) (nm_r (nI_1 i) (IH (i + 1) f (by omega) (by omega)))⟩⟩⟩⟩⟩⟩
  exact ⟨9, h27 8 0 9 (by omega) (by omega)⟩
theorem rb_0 (hSt : ∀ t, t < S → rl_St kd nu co cl tk cn t) (hS : S ≤ 8) : ∃ P : Nat, rb_B pn wp 0 wp 1 it le pe op kd nu co cl si tk cn L S m P (nI L, pn, wp, nI m, nI S, 0, -1, 0, 0, pt, sg, el, rs, 0, it, le, pe, op, kd, nu, co, cl, zr_z ap 8, zr_z rd 3, si, zr_z bg 8, zr_z ct 8, ls, hd, hk, zr_z hc 8, vl) (nI L, nI m, nI S, wp, 0, 0, 0, -1, vv, vt, ot, 1, br, oc, it, le, tk, cn, kd, nu, zr_z lf 8, zr_z la 8, zr_z pc 8, zr_z yb 8, yh, yk, zr_z ho 8, zr_z ap 8, zr_z rd 3, si, vs, os) := by
  refine ⟨_, 0, fun _ => 0, fun _ => 0, fun _ => 0, fun _ => 0, -1, pt, sg, el, rs, 0, 0, vv, vt, ot, br, oc, zr_z ap 8, zr_z rd 3, zr_z bg 8, zr_z ct 8, ls, hd, hk, zr_z hc 8, zr_z lf 8, zr_z la 8, zr_z pc 8, zr_z yb 8, yh, yk, zr_z ho 8, vl, vs, os, rfl, rfl, rfl, by omega, ⟨0, by omega, rfl, by rw [Nat.zero_min]; rfl⟩, fun s hs => ?_, fun t _ => Nat.le_refl 0, fun s _ => Nat.le_refl 0, fun s _ _ z => absurd z (by decide), fun s _ _ _ => rfl, fun s => Nat.zero_le 1⟩
  have hs8 : s < 8 := by omega
  obtain ⟨k, hk1, hk2, _⟩ := hSt s hs
  unfold dd_S
  dsimp only
  rw [hk2, nI_clamp (by omega), zr_0 bg 8 s hs8, zr_0 ct 8 s hs8, zr_0 hc 8 s hs8, zr_0 lf 8 s hs8, zr_0 la 8 s hs8, zr_0 pc 8 s hs8, zr_0 yb 8 s hs8, zr_0 ho 8 s hs8]
  have hbb : rn_bb 0 0 0 := ⟨rfl, Or.inl ⟨rfl, rfl⟩⟩
  rcases st_17 hk1 with rfl | rfl | rfl | rfl | rfl | rfl | rfl | rfl | rfl | rfl | rfl | rfl | rfl | rfl | rfl | rfl | rfl
  · trivial
  · trivial
  · exact rfl
  · exact ⟨0, by omega, rfl, fun _ => rfl, fun m2 _ _ => by rw [Nat.zero_min]; rfl⟩
  · trivial
  · exact rfl
  · exact ⟨rfl, fun z => absurd rfl z⟩
  · exact ⟨rfl, fun z => absurd rfl z⟩
  · exact ⟨0, by omega, rfl, rfl, fun i hi => absurd hi (by omega)⟩
  · exact ⟨hbb, 0, by omega, rfl, fun _ => rfl, fun z => absurd z (by decide)⟩
  · exact ⟨0, by omega, rfl, by rw [Nat.zero_min]; rfl⟩
  · exact ⟨rfl, 0, by omega, rfl, fun z => absurd rfl z⟩
  · exact ⟨rfl, Or.inl rfl, fun z => absurd rfl z⟩
  · exact ⟨rfl, Or.inl rfl, fun z => absurd rfl z⟩
  · exact ⟨hbb, 0, by omega, rfl, rfl, rfl, fun _ => rfl, fun z => absurd z (by decide), rfl⟩
  · exact ⟨hbb, 0, by omega, rfl, rfl, fun _ => rfl, fun z => absurd z (by decide), fun i hi => absurd hi (by omega)⟩
  · exact ⟨hbb, 0, by omega, rfl, rfl, rfl, fun _ => rfl, fun z => absurd z (by decide), fun i hi => absurd hi (by omega)⟩
end
