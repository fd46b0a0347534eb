/-! rules for loops over pure functions: two runs beside one another -/
theorem itr_s {σ : Type} {B : σ → Bool × σ} {n : Nat} {x y : σ} (h : B x = (true, y)) : itr B (n + 1) x = itr B n y := by
  show (bif (B x).1 then itr B n (B x).2 else (B x).2) = _
  rw [h]; rfl
theorem itr_e {σ : Type} {B : σ → Bool × σ} {n : Nat} {x y : σ} (h : B x = (false, y)) : itr B (n + 1) x = y := by
  show (bif (B x).1 then itr B n (B x).2 else (B x).2) = _
  rw [h]; rfl
/-- two loops, as long as they go on together; the second may idle on when the first has ended -/
theorem lp {σ τ : Type} {B : Int32 → σ → Bool × (Int32 × σ)} {B' : Int32 → τ → Bool × (Int32 × τ)} {I : Int32 → σ → τ → Prop} {J : σ → τ → Prop} (M : Int) (hM : M < 2147483647)
    (h : ∀ x s t, 0 ≤ x.toInt → I x s t → (∃ y z s' t', B x s = (false, (y, s')) ∧ B' x t = (false, (z, t')) ∧ J s' t') ∨ (x.toInt < M ∧ ∃ s' t', B x s = (true, (x + 1, s')) ∧ B' x t = (true, (x + 1, t')) ∧ I (x + 1) s' t') ∨ (∃ y s', B x s = (false, (y, s')) ∧ ∀ n, J s' (itr (uc2 B') n (x, t)).2)) :
    ∀ (n : Nat) (x : Int32) (s : σ) (t : τ), 0 ≤ x.toInt → M < x.toInt + n → x.toInt ≤ M → I x s t → J (itr (uc2 B) n (x, s)).2 (itr (uc2 B') n (x, t)).2 := by
  intro n
  induction n with
  | zero =>
    intro x s t h0 h1 h2 hI
    omega
  | succ n ih =>
    intro x s t h0 h1 h2 hI
    rcases h x s t h0 hI with ⟨y, z, s', t', e1, e2, hJ⟩ | ⟨hm, s', t', e1, e2, hI'⟩ | ⟨y, s', e1, hJ⟩
    · rw [itr_e (B := uc2 B) (x := (x, s)) (y := (y, s')) e1, itr_e (B := uc2 B') (x := (x, t)) (y := (z, t')) e2]
      exact hJ
    · rw [itr_s (B := uc2 B) (x := (x, s)) (y := (x + 1, s')) e1, itr_s (B := uc2 B') (x := (x, t)) (y := (x + 1, t')) e2]
      have h3 : (x + 1).toInt = x.toInt + 1 := i_add1 (by omega)
      exact ih (x + 1) s' t' (by omega) (by omega) (by omega) hI'
    · rw [itr_e (B := uc2 B) (x := (x, s)) (y := (y, s')) e1]
      exact hJ (n + 1)
/-- from 0 on, with the classes' fuel -/
theorem lpB {σ τ : Type} {B : Int32 → σ → Bool × (Int32 × σ)} {B' : Int32 → τ → Bool × (Int32 × τ)} {I : Int32 → σ → τ → Prop} {J : σ → τ → Prop} (M : Int) (hM : M < 2147483647)
    (h : ∀ x s t, 0 ≤ x.toInt → I x s t → (∃ y z s' t', B x s = (false, (y, s')) ∧ B' x t = (false, (z, t')) ∧ J s' t') ∨ (x.toInt < M ∧ ∃ s' t', B x s = (true, (x + 1, s')) ∧ B' x t = (true, (x + 1, t')) ∧ I (x + 1) s' t') ∨ (∃ y s', B x s = (false, (y, s')) ∧ ∀ n, J s' (itr (uc2 B') n (x, t)).2))
    {x : Int32} {s : σ} {t : τ} (h0 : 0 ≤ x.toInt) (h1 : x.toInt ≤ M) (hI : I x s t) : J (itr (uc2 B) BIG (x, s)).2 (itr (uc2 B') BIG (x, t)).2 :=
  lp M hM h BIG x s t h0 (by rw [BIG_eq]; omega) h1 hI
theorem itr_idle {σ : Type} {B : Int32 → σ → Bool × (Int32 × σ)} {t : σ} {P : Int32 → Prop} (h : ∀ x, P x → ∃ f y, B x t = (f, (y, t)) ∧ (f = true → P y)) : ∀ (n : Nat) (x : Int32), P x → (itr (uc2 B) n (x, t)).2 = t := by
  intro n
  induction n with
  | zero => intro x _; rfl
  | succ n ih =>
    intro x hx
    obtain ⟨f, y, e, hy⟩ := h x hx
    cases f with
    | true =>
      rw [itr_s (B := uc2 B) (x := (x, t)) (y := (y, t)) e]
      exact ih y (hy rfl)
    | false => rw [itr_e (B := uc2 B) (x := (x, t)) (y := (y, t)) e]
/-- one run alone -/
theorem lq {σ : Type} {B : Int32 → σ → Bool × (Int32 × σ)} {I : Int32 → σ → Prop} {J : σ → Prop} (M : Int) (hM : M < 2147483647)
    (h : ∀ x s, 0 ≤ x.toInt → I x s → (∃ y s', B x s = (false, (y, s')) ∧ J s') ∨ (x.toInt < M ∧ ∃ s', B x s = (true, (x + 1, s')) ∧ I (x + 1) s'))
    {x : Int32} {s : σ} (h0 : 0 ≤ x.toInt) (h1 : x.toInt ≤ M) (hI : I x s) : J (itr (uc2 B) BIG (x, s)).2 :=
  lpB (B := B) (B' := B) (I := fun x s t => I x s ∧ t = s) (J := fun s _ => J s) M hM (fun x s t h0 hI => by
    obtain ⟨hI, rfl⟩ := hI
    rcases h x _ h0 hI with ⟨y, s', e, hJ⟩ | ⟨hm, s', e, hI'⟩
    · exact Or.inl ⟨y, y, s', s', e, e, hJ⟩
    · exact Or.inr (Or.inl ⟨hm, s', s', e, e, hI', rfl⟩)) (t := s) h0 h1 ⟨hI, rfl⟩
theorem i_le {x m : Int32} {n : Int} (h : m ≤ x) (hm : m.toInt = n) : n ≤ x.toInt := by
  have h1 := Int32.le_iff_toInt_le.mp h
  omega
theorem i_nle {x m : Int32} (h : ¬ m ≤ x) : x.toInt < m.toInt := Int32.lt_iff_toInt_lt.mp (Int32.not_le.mp h)
theorem tn {x : Int32} : x.toNatClampNeg = x.toInt.toNat := rfl
theorem up_at {s : Sg} {k j : Nat} {v : Int32} (k' j' : Nat) : up s k j v k' j' = if k' = k ∧ j' = j then v else s k' j' := by
  by_cases hk : k' = k
  · subst hk
    by_cases hj : j' = j
    · subst hj; rw [rd_eq, if_pos ⟨rfl, rfl⟩]
    · rw [rd_nj hj, if_neg (fun q => hj q.2)]
  · rw [rd_nk hk, if_neg (fun q => hk q.1)]
