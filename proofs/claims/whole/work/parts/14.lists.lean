/-! sorting: the component keeps its list sorted from the right, the reference takes the first least one away -/
def ls_l {α : Type} (f : Nat → α) : Nat → List α
  | 0 => []
  | n + 1 => f 0 :: ls_l (fun i => f (i + 1)) n
theorem ls_congr {α : Type} : ∀ (n : Nat) (f g : Nat → α), (∀ i, i < n → f i = g i) → ls_l f n = ls_l g n
  | 0, _, _, _ => rfl
  | n + 1, f, g, h => by
    simp only [ls_l]
    rw [h 0 (by omega), ls_congr n _ _ (fun i hi => h (i + 1) (by omega))]
theorem ls_add {α : Type} : ∀ (a b : Nat) (f : Nat → α), ls_l f (a + b) = ls_l f a ++ ls_l (fun i => f (a + i)) b
  | 0, b, f => by simp [ls_l]
  | a + 1, b, f => by
    rw [show a + 1 + b = (a + b) + 1 from by omega]
    simp only [ls_l, List.cons_append]
    rw [ls_add a b]
    congr 2
    exact ls_congr _ _ _ (fun i _ => by rw [show a + i + 1 = a + 1 + i from by omega])
theorem ls_mem {α : Type} : ∀ (n : Nat) (f : Nat → α) (x : α), x ∈ ls_l f n → ∃ i, i < n ∧ f i = x
  | 0, _, _, h => by simp [ls_l] at h
  | n + 1, f, x, h => by
    simp only [ls_l, List.mem_cons] at h
    rcases h with h | h
    · exact ⟨0, by omega, h.symm⟩
    · obtain ⟨i, hi, e⟩ := ls_mem n _ x h
      exact ⟨i + 1, by omega, e⟩
def ls_in (x : Int32 × Int32) : List (Int32 × Int32) → List (Int32 × Int32)
  | [] => [x]
  | y :: l => if x.1 < y.1 then y :: ls_in x l else x :: y :: l
def ls_st (l : List (Int32 × Int32)) : List (Int32 × Int32) := l.foldl (fun acc e => ls_in e acc) []
theorem ls_st_snoc (l : List (Int32 × Int32)) (x : Int32 × Int32) : ls_st (l ++ [x]) = ls_in x (ls_st l) := by
  simp [ls_st, List.foldl_append]
theorem ls_in_app (x : Int32 × Int32) : ∀ (B A : List (Int32 × Int32)), (∀ y, y ∈ B → x.1 < y.1) → ls_in x (B ++ A) = B ++ ls_in x A
  | [], A, _ => rfl
  | y :: B, A, h => by
    simp only [List.cons_append, ls_in]
    rw [if_pos (h y (List.mem_cons_self ..)), ls_in_app x B A (fun z hz => h z (List.mem_cons_of_mem _ hz))]
theorem ls_in_mem (x : Int32 × Int32) : ∀ (l : List (Int32 × Int32)) (y : Int32 × Int32), y ∈ ls_in x l → y = x ∨ y ∈ l
  | [], y, h => by simp [ls_in] at h; exact Or.inl h
  | z :: l, y, h => by
    simp only [ls_in] at h
    split at h
    · rcases List.mem_cons.mp h with h | h
      · exact Or.inr (by rw [h]; exact List.mem_cons_self ..)
      · rcases ls_in_mem x l y h with h | h
        · exact Or.inl h
        · exact Or.inr (List.mem_cons_of_mem _ h)
    · rcases List.mem_cons.mp h with h | h
      · exact Or.inl h
      · exact Or.inr h
theorem ls_fold_mem : ∀ (l acc : List (Int32 × Int32)) (y : Int32 × Int32), y ∈ l.foldl (fun acc e => ls_in e acc) acc → y ∈ l ∨ y ∈ acc
  | [], acc, y, h => Or.inr h
  | x :: l, acc, y, h => by
    rcases ls_fold_mem l _ y h with h | h
    · exact Or.inl (List.mem_cons_of_mem _ h)
    · rcases ls_in_mem x acc y h with h | h
      · exact Or.inl (by rw [h]; exact List.mem_cons_self ..)
      · exact Or.inr h
theorem ls_st_mem (l : List (Int32 × Int32)) (y : Int32 × Int32) (h : y ∈ ls_st l) : y ∈ l := by
  rcases ls_fold_mem l [] y h with h | h
  · exact h
  · simp at h
theorem ls_in_end (m y : Int32 × Int32) (h : m.1 ≤ y.1) : ∀ acc : List (Int32 × Int32), ls_in y (acc ++ [m]) = ls_in y acc ++ [m]
  | [] => by
    simp only [List.nil_append, ls_in]
    rw [if_neg (Int32.not_lt.mpr h)]
    rfl
  | z :: acc => by
    simp only [List.cons_append, ls_in]
    split
    · rw [ls_in_end m y h acc, List.cons_append]
    · rfl
theorem ls_fold_end (m : Int32 × Int32) : ∀ (c acc : List (Int32 × Int32)), (∀ y, y ∈ c → m.1 ≤ y.1) → c.foldl (fun acc e => ls_in e acc) (acc ++ [m]) = c.foldl (fun acc e => ls_in e acc) acc ++ [m]
  | [], acc, _ => rfl
  | y :: c, acc, h => by
    simp only [List.foldl_cons]
    rw [ls_in_end m y (h y (List.mem_cons_self ..)), ls_fold_end m c _ (fun z hz => h z (List.mem_cons_of_mem _ hz))]
theorem ls_first (a c : List (Int32 × Int32)) (m : Int32 × Int32) (h1 : ∀ y, y ∈ a → m.1 < y.1) (h2 : ∀ y, y ∈ c → m.1 ≤ y.1) : ls_st (a ++ m :: c) = ls_st (a ++ c) ++ [m] := by
  have e : a ++ m :: c = (a ++ [m]) ++ c := by simp
  rw [e]
  unfold ls_st
  rw [List.foldl_append, List.foldl_append, List.foldl_append]
  have h3 : ls_in m (a.foldl (fun acc e => ls_in e acc) []) = a.foldl (fun acc e => ls_in e acc) [] ++ [m] := by
    have := ls_in_app m (ls_st a) [] (fun y hy => h1 y (ls_st_mem a y hy))
    rw [List.append_nil] at this
    exact this
  show c.foldl (fun acc e => ls_in e acc) (ls_in m (a.foldl (fun acc e => ls_in e acc) [])) = _
  rw [h3, ls_fold_end m c _ h2]
/-- the component's insertion: position q, all behind it greater -/
theorem ls_ins (f g : Nat → Int32 × Int32) (n q : Nat) (hq : q ≤ n) (x : Int32 × Int32) (h1 : ∀ i, i < q → g i = f i) (h2 : g q = x) (h3 : ∀ i, q ≤ i → i < n → g (i + 1) = f i) (h4 : ∀ i, q ≤ i → i < n → x.1 < (f i).1) (h5 : q = 0 ∨ ¬ x.1 < (f (q - 1)).1) :
    (ls_l g (n + 1)).reverse = ls_in x (ls_l f n).reverse := by
  have ef : ls_l f n = ls_l f q ++ ls_l (fun i => f (q + i)) (n - q) := by
    rw [← ls_add]; congr 1; omega
  have eg : ls_l g (n + 1) = ls_l f q ++ x :: ls_l (fun i => f (q + i)) (n - q) := by
    rw [show n + 1 = q + ((n - q) + 1) from by omega, ls_add]
    congr 1
    · exact ls_congr _ _ _ h1
    · simp only [ls_l]
      congr 1
      refine ls_congr _ _ _ (fun i hi => ?_)
      have := h3 (q + i) (by omega) (by omega)
      rw [← this]; congr 1
  rw [ef, eg]
  simp only [List.reverse_append, List.reverse_cons, List.append_assoc]
  rw [ls_in_app]
  · congr 1
    rcases h5 with rfl | h5
    · rfl
    · cases q with
      | zero => rfl
      | succ q =>
        have e : ls_l f (q + 1) = ls_l f q ++ [f q] := by rw [ls_add]; rfl
        rw [e, List.reverse_append]
        simp only [List.reverse_cons, List.reverse_nil, List.nil_append, List.cons_append, ls_in]
        rw [if_neg (by simpa using h5)]
  · intro y hy
    rw [List.mem_reverse] at hy
    obtain ⟨i, hi, e⟩ := ls_mem _ _ _ hy
    rw [← e]
    exact h4 _ (by omega) (by omega)
/-- taking the first least one away -/
theorem ls_take (f h : Nat → Int32 × Int32) (X : List (Int32 × Int32)) (r p : Nat) (hp : p < r + 1) (h1 : ∀ i, i < p → (f p).1 < (f i).1) (h2 : ∀ i, p ≤ i → i < r + 1 → (f p).1 ≤ (f i).1) (g1 : ∀ i, i < p → h i = f i) (g2 : ∀ i, p ≤ i → i < r → h i = f (i + 1)) (x : Int32 × Int32) (T : List (Int32 × Int32)) (hX : X = x :: T) (hR : X.reverse = ls_st (ls_l f (r + 1))) :
    x = f p ∧ T.reverse = ls_st (ls_l h r) := by
  have ef : ls_l f (r + 1) = ls_l f p ++ f p :: ls_l (fun i => f (p + 1 + i)) (r - p) := by
    rw [show r + 1 = p + ((r - p) + 1) from by omega, ls_add]
    simp only [ls_l]
    congr 2
    exact ls_congr _ _ _ (fun i _ => by congr 1; omega)
  have eh : ls_l h r = ls_l f p ++ ls_l (fun i => f (p + 1 + i)) (r - p) := by
    rw [show r = p + (r - p) from by omega, ls_add]
    congr 1
    · exact ls_congr _ _ _ g1
    · rw [show p + (r - p) - p = r - p from by omega]
      refine ls_congr _ _ _ (fun i hi => ?_)
      rw [g2 _ (by omega) (by omega)]
      congr 1; omega
  rw [ef, ls_first, ← eh, hX, List.reverse_cons] at hR
  · have := List.append_inj' hR rfl
    refine ⟨by simpa using this.2, this.1⟩
  · intro y hy
    obtain ⟨i, hi, e⟩ := ls_mem _ _ _ hy
    rw [← e]; exact h1 i hi
  · intro y hy
    obtain ⟨i, hi, e⟩ := ls_mem _ _ _ hy
    rw [← e]; exact h2 _ (by omega) (by omega)
