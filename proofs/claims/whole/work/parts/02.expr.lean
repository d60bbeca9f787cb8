/-! the pure picture of an expression: translation of the tokens into code behind operands, and the code's working out -/
theorem br_ite {c : Prop} [Decidable c] {α : Type} {post : α → Prop} {a b : α} {A B : Prop} (ha : c → post a → A) (hb : ¬ c → post b → B) (h : post (if c then a else b)) : (c → A) ∧ (¬ c → B) :=
  ⟨fun z => ha z (by rw [if_pos z] at h; exact h), fun z => hb z (by rw [if_neg z] at h; exact h)⟩
def ex_opd (t : Int32) : Bool := (decide (1 ≤ t) && decide (t ≤ 3)) || decide (1000 ≤ t)
def ex_bin (t : Int32) : Bool := t == 4 || t == 5 || t == 6 || t == 7 || t == 8 || t == 9 || t == 10 || t == 11
def ex_rk (t : Int32) : Nat := if t = 9 ∨ t = 10 then 1 else if t = 4 ∨ t = 5 ∨ t = 11 then 2 else if t = 6 ∨ t = 7 ∨ t = 8 then 3 else if t = 14 then 4 else 0
theorem ex_binC {t : Int32} (h : ex_bin t = true) : t = 4 ∨ t = 5 ∨ t = 6 ∨ t = 7 ∨ t = 8 ∨ t = 9 ∨ t = 10 ∨ t = 11 := by
  simp only [ex_bin, Bool.or_eq_true, beq_iff_eq] at h
  rcases h with ((((((h | h) | h) | h) | h) | h) | h) | h <;> simp [h]
/-- what may lie on the stack of operators -/
def ex_ok (t : Int32) : Prop := t = 12 ∨ t = 14 ∨ ex_bin t = true
def ex_pop (r : Nat) : List Int32 → List Int32 × List Int32
  | [] => ([], [])
  | o :: l => if r ≤ ex_rk o then (o :: (ex_pop r l).1, (ex_pop r l).2) else ([], o :: l)
def ex_step (t : Int32) (d : Bool) (ops code : List Int32) : Bool × List Int32 × List Int32 :=
  if ex_opd t = true then (false, ops, code ++ [t])
  else if t = 13 then (d, (ex_pop 1 ops).2.tail, code ++ (ex_pop 1 ops).1)
  else if t = 12 then (true, 12 :: ops, code)
  else if t = 5 ∧ d = true then (true, 14 :: ops, code)
  else (true, t :: (ex_pop (ex_rk t) ops).2, code ++ (ex_pop (ex_rk t) ops).1)
def ex_cs (tk : Nat → Int32) : Nat → Bool × List Int32 × List Int32
  | 0 => (true, [], [])
  | i + 1 => ex_step (tk i) (ex_cs tk i).1 (ex_cs tk i).2.1 (ex_cs tk i).2.2
def ex_code (tk : Nat → Int32) (n : Nat) : List Int32 := (ex_cs tk n).2.2 ++ (ex_pop 1 (ex_cs tk n).2.1).1
def ex_leg (t : Int32) (d : Bool) (ops : List Int32) : Prop :=
  (d = true → t = 12 ∨ t = 5 ∨ ex_opd t = true) ∧ (d = false → (t = 13 ∧ 12 ∈ ops) ∨ ex_bin t = true)
def ex_WF (tk : Nat → Int32) (n : Nat) : Prop :=
  (∀ i, i < n → ex_leg (tk i) (ex_cs tk i).1 (ex_cs tk i).2.1) ∧ (ex_cs tk n).1 = false ∧ 12 ∉ (ex_cs tk n).2.1
def ex_val (x y k t : Int32) : Int32 := if t = 1 then x else if t = 2 then y else if t = 3 then k else t - 1000
def ex_cmb (t a b : Int32) : Int32 := if t = 4 then a + b else if t = 5 then a - b else if t = 6 then a * b else if t = 7 then a / b else if t = 8 then a - a / b * b else if t = 9 then (if b ≤ a then 0 else 1) else if t = 10 then (if a = b then 1 else 0) else a &&& b
def ex_xs (x y k t : Int32) (st : List Int32 × Bool) : List Int32 × Bool :=
  if ex_opd t = true then (ex_val x y k t :: st.1, st.2)
  else if t = 14 then (match st.1 with | a :: r => ((-a) :: r, st.2) | [] => ([], st.2))
  else (match st.1 with | b :: a :: r => if (t = 7 ∨ t = 8) ∧ b = 0 then (ex_cmb t a 1 :: r, true) else (ex_cmb t a b :: r, st.2) | l => (l, st.2))
def ex_ev (x y k : Int32) (l : List Int32) : List Int32 × Bool := l.foldl (fun st t => ex_xs x y k t st) ([], false)
theorem ex_ev_app (x y k t : Int32) (l : List Int32) : ex_ev x y k (l ++ [t]) = ex_xs x y k t (ex_ev x y k l) := by
  simp [ex_ev, List.foldl_append]
/-- heights alone -/
def ex_fit : List Int32 → Nat → Prop
  | [], _ => True
  | t :: l, h => if ex_opd t = true then ex_fit l (h + 1) else if t = 14 then 1 ≤ h ∧ ex_fit l h else 2 ≤ h ∧ ex_fit l (h - 1)
def ex_hgt : List Int32 → Nat → Nat
  | [], h => h
  | t :: l, h => if ex_opd t = true then ex_hgt l (h + 1) else if t = 14 then ex_hgt l h else ex_hgt l (h - 1)
theorem ex_hgt_app : ∀ (l m : List Int32) (h : Nat), ex_hgt (l ++ m) h = ex_hgt m (ex_hgt l h)
  | [], m, h => rfl
  | t :: l, m, h => by
    simp only [List.cons_append, ex_hgt]
    split
    · exact ex_hgt_app l m _
    · split
      · exact ex_hgt_app l m _
      · exact ex_hgt_app l m _
theorem ex_fit_app : ∀ (l m : List Int32) (h : Nat), ex_fit l h → ex_fit m (ex_hgt l h) → ex_fit (l ++ m) h
  | [], m, h => fun _ b => b
  | t :: l, m, h => by
    simp only [List.cons_append, ex_fit, ex_hgt]
    split
    · exact ex_fit_app l m _
    · split
      · exact fun a b => ⟨a.1, ex_fit_app l m _ a.2 b⟩
      · exact fun a b => ⟨a.1, ex_fit_app l m _ a.2 b⟩
theorem ex_fit_l : ∀ (l m : List Int32) (h : Nat), ex_fit (l ++ m) h → ex_fit l h
  | [], m, h => fun _ => trivial
  | t :: l, m, h => by
    simp only [List.cons_append, ex_fit]
    split
    · exact ex_fit_l l m _
    · split
      · exact fun a => ⟨a.1, ex_fit_l l m _ a.2⟩
      · exact fun a => ⟨a.1, ex_fit_l l m _ a.2⟩
theorem ex_fit_r : ∀ (l m : List Int32) (h : Nat), ex_fit (l ++ m) h → ex_fit m (ex_hgt l h)
  | [], m, h => fun a => a
  | t :: l, m, h => by
    simp only [List.cons_append, ex_fit, ex_hgt]
    split
    · exact ex_fit_r l m _
    · split
      · exact fun a => ex_fit_r l m _ a.2
      · exact fun a => ex_fit_r l m _ a.2
theorem ex_hgt_le : ∀ (l : List Int32) (h : Nat), ex_hgt l h ≤ h + l.length
  | [], h => Nat.le_refl _
  | t :: l, h => by
    simp only [ex_hgt, List.length_cons]
    split
    · have := ex_hgt_le l (h + 1); omega
    · split
      · have := ex_hgt_le l h; omega
      · have := ex_hgt_le l (h - 1); omega
theorem ex_xs_len (x y k t : Int32) (st : List Int32 × Bool) (h : ex_fit [t] st.1.length) : (ex_xs x y k t st).1.length = ex_hgt [t] st.1.length := by
  obtain ⟨l, b⟩ := st
  simp only [ex_fit, ex_hgt, ex_xs] at *
  split
  · simp
  · rename_i h0
    rw [if_neg h0] at h
    split
    · rename_i h1
      rw [if_pos h1] at h
      cases l with
      | nil => simp at h
      | cons a r => simp
    · rename_i h1
      rw [if_neg h1] at h
      match l, h with
      | [], h => simp at h
      | [a], h => simp at h
      | a :: c :: r, h =>
        simp only
        split <;> simp
theorem ex_ev_snoc (x y k : Int32) (l m : List Int32) : ex_ev x y k (l ++ m) = m.foldl (fun st t => ex_xs x y k t st) (ex_ev x y k l) := by
  simp [ex_ev, List.foldl_append]
theorem ex_ev_len' (x y k : Int32) : ∀ (l : List Int32) (st : List Int32 × Bool), ex_fit l st.1.length → (l.foldl (fun st t => ex_xs x y k t st) st).1.length = ex_hgt l st.1.length
  | [], st => fun _ => rfl
  | t :: l, st => fun h => by
    have h1 : ex_fit [t] st.1.length := ex_fit_l [t] l _ h
    have h2 : ex_fit l (ex_hgt [t] st.1.length) := ex_fit_r [t] l _ h
    have e := ex_xs_len x y k t st h1
    rw [List.foldl_cons, ex_ev_len' x y k l _ (by rw [e]; exact h2), e, ← ex_hgt_app]
    rfl
theorem ex_ev_len (x y k : Int32) (l : List Int32) (h : ex_fit l 0) : (ex_ev x y k l).1.length = ex_hgt l 0 := ex_ev_len' x y k l ([], false) h
theorem ex_xs_br (x y k t : Int32) (st : List Int32 × Bool) (h : st.2 = true) : (ex_xs x y k t st).2 = true := by
  unfold ex_xs
  split
  · exact h
  · split
    · split <;> exact h
    · split
      · split
        · rfl
        · exact h
      · exact h
theorem ex_ev_br (x y k : Int32) : ∀ (l : List Int32) (st : List Int32 × Bool), st.2 = true → (l.foldl (fun st t => ex_xs x y k t st) st).2 = true
  | [], st => fun h => h
  | t :: l, st => fun h => ex_ev_br x y k l _ (ex_xs_br x y k t st h)
/-- numbers of the operators with two operands -/
def ex_nb (l : List Int32) : Nat := (l.filter ex_bin).length
theorem ex_nb_cons (t : Int32) (l : List Int32) : ex_nb (t :: l) = (if ex_bin t = true then 1 else 0) + ex_nb l := by
  unfold ex_nb
  rw [List.filter_cons]
  split <;> simp [Nat.add_comm]
theorem ex_bin_no {t : Int32} (h : ex_bin t = true) : ex_opd t = false ∧ t ≠ 14 ∧ t ≠ 12 ∧ t ≠ 13 ∧ 1 ≤ ex_rk t := by
  rcases ex_binC h with rfl | rfl | rfl | rfl | rfl | rfl | rfl | rfl <;> decide
theorem ex_pop_eq (r : Nat) : ∀ l : List Int32, (ex_pop r l).1 ++ (ex_pop r l).2 = l
  | [] => rfl
  | o :: l => by
    simp only [ex_pop]
    split
    · simp [ex_pop_eq r l]
    · rfl
theorem ex_pop_len (r : Nat) (l : List Int32) : (ex_pop r l).1.length + (ex_pop r l).2.length = l.length := by
  have := congrArg List.length (ex_pop_eq r l)
  rw [List.length_append] at this
  exact this
theorem ex_pop_rk (r : Nat) : ∀ l : List Int32, ∀ o, o ∈ (ex_pop r l).1 → r ≤ ex_rk o
  | [], o, h => by simp [ex_pop] at h
  | p :: l, o, h => by
    simp only [ex_pop] at h
    split at h
    · rename_i h1
      rcases List.mem_cons.mp h with h | h
      · rw [h]; exact h1
      · exact ex_pop_rk r l o h
    · simp at h
theorem ex_nb_app (l m : List Int32) : ex_nb (l ++ m) = ex_nb l + ex_nb m := by
  simp [ex_nb]
theorem ex_pop_nb (r : Nat) (l : List Int32) : ex_nb (ex_pop r l).1 + ex_nb (ex_pop r l).2 = ex_nb l := by
  rw [← ex_nb_app, ex_pop_eq]
/-- code that is operators alone -/
theorem ex_fit_ops : ∀ (p : List Int32) (h : Nat), (∀ o, o ∈ p → ex_ok o ∧ 1 ≤ ex_rk o) → ex_nb p + 1 ≤ h → ex_fit p h ∧ ex_hgt p h = h - ex_nb p
  | [], h => fun _ _ => ⟨trivial, rfl⟩
  | t :: l, h => fun H hh => by
    have h1 := H t (List.mem_cons_self ..)
    rw [ex_nb_cons] at hh ⊢
    have IH := ex_fit_ops l
    simp only [ex_fit, ex_hgt]
    rcases h1.1 with rfl | rfl | hb
    · exact absurd h1.2 (by decide)
    · have e : ex_opd 14 = false := by decide
      have e2 : ex_bin 14 = false := by decide
      simp only [e, e2, Bool.false_eq_true, if_false, if_true, Nat.zero_add] at hh ⊢
      have := IH h (fun o ho => H o (List.mem_cons_of_mem _ ho)) hh
      exact ⟨⟨by omega, this.1⟩, this.2⟩
    · obtain ⟨a, b, _⟩ := ex_bin_no hb
      simp only [a, b, hb, Bool.false_eq_true, if_false, if_true] at hh ⊢
      have := IH (h - 1) (fun o ho => H o (List.mem_cons_of_mem _ ho)) (by omega)
      exact ⟨⟨by omega, this.1⟩, by rw [this.2]; omega⟩
/-- what holds at every token of a right expression -/
def ex_inv (i : Nat) (d : Bool) (ops code : List Int32) : Prop :=
  (∀ o, o ∈ ops → ex_ok o) ∧ ex_fit code 0 ∧ ex_hgt code 0 = ex_nb ops + (if d = true then 0 else 1) ∧ code.length + ops.length ≤ i
theorem ex_inv_pop {i : Nat} {ops code : List Int32} (r : Nat) (hr : 1 ≤ r) (h : ex_inv i false ops code) :
    ex_inv i false (ex_pop r ops).2 (code ++ (ex_pop r ops).1) := by
  obtain ⟨h1, h2, h3, h4⟩ := h
  have hm : ∀ o, o ∈ (ex_pop r ops).1 → ex_ok o ∧ 1 ≤ ex_rk o := fun o ho =>
    ⟨h1 o (by rw [← ex_pop_eq r ops]; exact List.mem_append_left _ ho), Nat.le_trans hr (ex_pop_rk r ops o ho)⟩
  have hn := ex_pop_nb r ops
  simp only [Bool.false_eq_true, if_false] at h3
  have hf := ex_fit_ops (ex_pop r ops).1 (ex_hgt code 0) hm (by omega)
  refine ⟨fun o ho => h1 o (by rw [← ex_pop_eq r ops]; exact List.mem_append_right _ ho), ex_fit_app _ _ _ h2 hf.1, ?_, ?_⟩
  · rw [ex_hgt_app, hf.2, if_neg (by decide)]; omega
  · have := ex_pop_len r ops
    rw [List.length_append]; omega
theorem ex_pop_12 : ∀ l : List Int32, 12 ∈ l → ∃ m, (ex_pop 1 l).2 = 12 :: m ∨ ((ex_pop 1 l).2 ≠ [])
  | [], h => by simp at h
  | o :: l, h => by
    simp only [ex_pop]
    split
    · rename_i h1
      rcases List.mem_cons.mp h with h | h
      · subst h; exact absurd h1 (by decide)
      · exact ex_pop_12 l h
    · exact ⟨l, Or.inr (by simp)⟩
theorem ex_pop_head : ∀ l : List Int32, (∀ o, o ∈ l → ex_ok o) → ((ex_pop 1 l).2 = [] ∧ 12 ∉ l) ∨ (∃ m, (ex_pop 1 l).2 = 12 :: m)
  | [], _ => Or.inl ⟨rfl, by simp⟩
  | o :: l, h => by
    have ho := h o (List.mem_cons_self ..)
    have IH := ex_pop_head l (fun p hp => h p (List.mem_cons_of_mem _ hp))
    simp only [ex_pop]
    by_cases h1 : 1 ≤ ex_rk o
    · rw [if_pos h1]
      rcases IH with ⟨a, b⟩ | b
      · refine Or.inl ⟨a, fun hm => ?_⟩
        rcases List.mem_cons.mp hm with e | e
        · subst e; exact absurd h1 (by decide)
        · exact b e
      · exact Or.inr b
    · rw [if_neg h1]
      rcases ho with rfl | rfl | hb
      · exact Or.inr ⟨l, rfl⟩
      · exact absurd (by decide) h1
      · exact absurd (ex_bin_no hb).2.2.2.2 h1
theorem ex_inv_step {i : Nat} {t : Int32} {d : Bool} {ops code : List Int32} (h : ex_inv i d ops code) (hl : ex_leg t d ops) :
    ex_inv (i + 1) (ex_step t d ops code).1 (ex_step t d ops code).2.1 (ex_step t d ops code).2.2 := by
  cases d with
  | true =>
    obtain ⟨h1, h2, h3, h4⟩ := h
    simp only [if_true] at h3
    rcases hl.1 rfl with rfl | rfl | ho
    · refine ⟨?_, h2, ?_, ?_⟩
      · intro o hm
        rcases List.mem_cons.mp hm with e | e
        · exact Or.inl e
        · exact h1 o e
      · show ex_hgt code 0 = ex_nb (12 :: ops) + 0
        rw [ex_nb_cons, if_neg (by decide), h3]; omega
      · show code.length + (12 :: ops : List Int32).length ≤ i + 1
        rw [List.length_cons]; omega
    · refine ⟨?_, h2, ?_, ?_⟩
      · intro o hm
        rcases List.mem_cons.mp hm with e | e
        · exact Or.inr (Or.inl e)
        · exact h1 o e
      · show ex_hgt code 0 = ex_nb (14 :: ops) + 0
        rw [ex_nb_cons, if_neg (by decide), h3]; omega
      · show code.length + (14 :: ops : List Int32).length ≤ i + 1
        rw [List.length_cons]; omega
    · simp only [ex_step, ho, if_true]
      refine ⟨h1, ex_fit_app _ _ _ h2 (by simp [ex_fit, ho]), ?_, ?_⟩
      · rw [ex_hgt_app, h3]; simp [ex_hgt, ho]
      · rw [List.length_append]; simp; omega
  | false =>
    rcases hl.2 rfl with ⟨rfl, hm⟩ | hb
    · have hp := ex_inv_pop 1 (Nat.le_refl _) h
      have e : ex_step 13 false ops code = (false, (ex_pop 1 ops).2.tail, code ++ (ex_pop 1 ops).1) := by
        unfold ex_step
        rw [if_neg (by decide), if_pos rfl]
      rw [e]
      rcases ex_pop_head ops h.1 with ⟨_, b⟩ | ⟨m, hm2⟩
      · exact absurd hm b
      · rw [hm2] at hp ⊢
        obtain ⟨g1, g2, g3, g4⟩ := hp
        refine ⟨fun o ho => g1 o (List.mem_cons_of_mem _ ho), g2, ?_, ?_⟩
        · rw [g3, ex_nb_cons, if_neg (by decide)]
          simp
        · rw [List.length_cons] at g4
          simp only [List.tail_cons]
          omega
    · obtain ⟨a, b, c, d', e'⟩ := ex_bin_no hb
      have hp := ex_inv_pop (ex_rk t) e' h
      have e : ex_step t false ops code = (true, t :: (ex_pop (ex_rk t) ops).2, code ++ (ex_pop (ex_rk t) ops).1) := by
        unfold ex_step
        rw [if_neg (by simp [a]), if_neg d', if_neg c, if_neg (by simp)]
      rw [e]
      obtain ⟨g1, g2, g3, g4⟩ := hp
      refine ⟨?_, g2, ?_, ?_⟩
      · intro o hm
        rcases List.mem_cons.mp hm with e | e
        · rw [e]; exact Or.inr (Or.inr hb)
        · exact g1 o e
      · rw [g3, ex_nb_cons, if_pos hb]
        simp; omega
      · dsimp only
        rw [List.length_cons]; omega
theorem ex_inv_at {tk : Nat → Int32} {n : Nat} (h : ∀ i, i < n → ex_leg (tk i) (ex_cs tk i).1 (ex_cs tk i).2.1) :
    ∀ i, i ≤ n → ex_inv i (ex_cs tk i).1 (ex_cs tk i).2.1 (ex_cs tk i).2.2
  | 0, _ => ⟨fun o ho => by simp [ex_cs] at ho, trivial, rfl, Nat.le_refl _⟩
  | i + 1, hi => ex_inv_step (ex_inv_at h i (by omega)) (h i (by omega))
theorem ex_fin {tk : Nat → Int32} {n : Nat} (h : ex_WF tk n) : (ex_pop 1 (ex_cs tk n).2.1).2 = [] ∧ ex_inv n false [] (ex_code tk n) := by
  have h1 := ex_inv_at h.1 n (Nat.le_refl _)
  rw [h.2.1] at h1
  have h2 := ex_inv_pop 1 (Nat.le_refl _) h1
  rcases ex_pop_head _ h1.1 with ⟨a, _⟩ | ⟨m, hm⟩
  · rw [a] at h2
    exact ⟨a, h2⟩
  · exfalso
    apply h.2.2
    have := ex_pop_eq 1 (ex_cs tk n).2.1
    rw [hm] at this
    rw [← this]
    simp
