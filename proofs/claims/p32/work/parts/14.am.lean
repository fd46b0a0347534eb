/-! an action asks of the locals no more than it reads: a run from fewer locals is a run from more -/
def ndk : List (Nat × Value) → Bool
  | [] => true
  | q :: r => (r.all fun z => !Nat.beq z.1 q.1) && ndk r
def lsub (lo lo' : List (Nat × Value)) : Prop := (∀ q ∈ lo, q ∈ lo') ∧ ndk lo' = true
theorem ndk_look : ∀ {lo : List (Nat × Value)} {i : Nat} {v : Value}, ndk lo = true → (i, v) ∈ lo → ev_look lo i = some v
  | [], i, v, _, hm => by cases hm
  | q :: r, i, v, h, hm => by
    obtain ⟨h1, h2⟩ := Bool.and_eq_true_iff.mp h
    unfold ev_look
    rcases List.mem_cons.mp hm with hq | hq
    · subst hq
      rw [show Nat.beq i i = true from Nat.beq_refl i]
      rfl
    · have h3 := List.all_eq_true.mp h1 _ hq
      cases hb : Nat.beq q.1 i with
      | true =>
        have h4 := Nat.eq_of_beq_eq_true hb
        subst h4
        rw [show Nat.beq q.1 q.1 = true from Nat.beq_refl q.1] at h3
        cases h3
      | false => exact ndk_look h2 hq
theorem ndk_filter {p : Nat × Value → Bool} : ∀ {lo : List (Nat × Value)}, ndk lo = true → ndk (lo.filter p) = true
  | [], _ => rfl
  | q :: r, h => by
    obtain ⟨h1, h2⟩ := Bool.and_eq_true_iff.mp h
    rw [List.filter_cons]
    cases p q with
    | false => exact ndk_filter h2
    | true =>
      refine Bool.and_eq_true_iff.mpr ⟨List.all_eq_true.mpr fun z hz => List.all_eq_true.mp h1 z (List.mem_filter.mp hz).1, ndk_filter h2⟩
theorem lsub_look {lo lo' : List (Nat × Value)} {i : Nat} {v : Value} (h : lsub lo lo') (hv : ev_look lo i = some v) : ev_look lo' i = some v := ndk_look h.2 (h.1 _ (ev_look_mem lo i v hv))
theorem lsub_st1 {lo lo' : List (Nat × Value)} {i : Nat} {v : Value} (h : lsub lo lo') : lsub (ev_st1 lo i v) (ev_st1 lo' i v) := by
  refine ⟨fun q hq => ?_, ?_⟩
  · rcases List.mem_cons.mp hq with rfl | hq
    · exact List.mem_cons_self
    · exact List.mem_cons_of_mem _ (List.mem_filter.mpr ⟨h.1 _ (List.mem_filter.mp hq).1, (List.mem_filter.mp hq).2⟩)
  · refine Bool.and_eq_true_iff.mpr ⟨List.all_eq_true.mpr fun z hz => ?_, ndk_filter h.2⟩
    have h1 := (Bool.and_eq_true_iff.mp (List.mem_filter.mp hz).2).1
    cases hb : Nat.beq z.1 i with
    | false => rfl
    | true =>
      have h4 : z.1 = i := Nat.eq_of_beq_eq_true hb
      rw [h4] at h1
      simp at h1
theorem lsub_st2 {lo lo' : List (Nat × Value)} {i : Nat} {v : Value} (h : lsub lo lo') : lsub (ev_st2 lo i v) (ev_st2 lo' i v) := by
  refine ⟨fun q hq => ?_, ?_⟩
  · rcases List.mem_cons.mp hq with rfl | hq
    · exact List.mem_cons_self
    · exact List.mem_cons_of_mem _ (List.mem_filter.mpr ⟨h.1 _ (List.mem_filter.mp hq).1, (List.mem_filter.mp hq).2⟩)
  · refine Bool.and_eq_true_iff.mpr ⟨List.all_eq_true.mpr fun z hz => ?_, ndk_filter h.2⟩
    have h1 := (Bool.and_eq_true_iff.mp (List.mem_filter.mp hz).2).1
    cases hb : Nat.beq z.1 i with
    | false => rfl
    | true =>
      have h4 : z.1 = i := Nat.eq_of_beq_eq_true hb
      rw [h4] at h1
      simp at h1
def AM (a : EA) : Prop := ∀ (call : ECall) (k k' : EK) (pc : Nat) (lo lo' : List (Nat × Value)) (st : List Value) (h : EH) (r : (Option Value ⊕ String) × EH), lsub lo lo' →
  (∀ (pc1 : Nat) (lo1 lo1' : List (Nat × Value)) (st1 : List Value) (h1 : EH), lsub lo1 lo1' → k (pc1, lo1, st1) h1 = some r → k' (pc1, lo1', st1) h1 = some r) →
  a call k (pc, lo, st) h = some r → a call k' (pc, lo', st) h = some r
theorem am_no : AM a_no := fun _ _ _ _ _ _ _ _ _ _ _ hr => by cases hr
theorem am_ii {n : Nat} {g : Int32 → Int32 → Int32} : AM (a_ii n g) := by
  intro call k k' pc lo lo' st h r hl hk hr
  match st, hr with
  | .int y :: .int x :: st, hr => exact hk _ _ _ _ _ hl hr
theorem am_iiN {g : Int32 → Int32 → Int32} : AM (a_iiN g) := by
  intro call k k' pc lo lo' st h r hl hk hr
  match st, hr with
  | .int y :: .int x :: st, hr =>
    have hr : (if y = 0 then none else k (pc + 1, lo, .int (g x y) :: st) h) = some r := hr
    show (if y = 0 then none else k' (pc + 1, lo', .int (g x y) :: st) h) = some r
    by_cases hy : y = 0
    · rw [if_pos hy] at hr; cases hr
    · rw [if_neg hy] at hr ⊢; exact hk _ _ _ _ _ hl hr
theorem am_i {g : Int32 → Value} : AM (a_i g) := by
  intro call k k' pc lo lo' st h r hl hk hr
  match st, hr with
  | .int x :: st, hr => exact hk _ _ _ _ _ hl hr
theorem am_ll {g : Int64 → Int64 → Value} : AM (a_ll g) := by
  intro call k k' pc lo lo' st h r hl hk hr
  match st, hr with
  | .long y :: .long x :: st, hr => exact hk _ _ _ _ _ hl hr
theorem am_push {n : Nat} {v : Value} : AM (a_push n v) := fun call k k' pc lo lo' st h r hl hk hr => hk _ _ _ _ _ hl hr
theorem am_goto {t : Nat} : AM (a_goto t) := fun call k k' pc lo lo' st h r hl hk hr => hk _ _ _ _ _ hl hr
theorem am_if {t : Nat} {b : Int32 → Bool} : AM (a_if t b) := by
  intro call k k' pc lo lo' st h r hl hk hr
  match st, hr with
  | .int x :: st, hr =>
    have hr : (bif b x then k (t, lo, st) h else k (pc + 3, lo, st) h) = some r := hr
    show (bif b x then k' (t, lo', st) h else k' (pc + 3, lo', st) h) = some r
    cases hb : b x with
    | true => rw [hb] at hr; exact hk _ _ _ _ _ hl hr
    | false => rw [hb] at hr; exact hk _ _ _ _ _ hl hr
theorem am_ic {t : Nat} {b : Int32 → Int32 → Bool} : AM (a_ic t b) := by
  intro call k k' pc lo lo' st h r hl hk hr
  match st, hr with
  | .int y :: .int x :: st, hr =>
    have hr : (bif b x y then k (t, lo, st) h else k (pc + 3, lo, st) h) = some r := hr
    show (bif b x y then k' (t, lo', st) h else k' (pc + 3, lo', st) h) = some r
    cases hb : b x y with
    | true => rw [hb] at hr; exact hk _ _ _ _ _ hl hr
    | false => rw [hb] at hr; exact hk _ _ _ _ _ hl hr
theorem am_iload {n i : Nat} : AM (a_iload n i) := by
  intro call k k' pc lo lo' st h r hl hk hr
  unfold a_iload at hr ⊢
  dsimp only at hr ⊢
  cases hq : ev_look lo i with
  | none => rw [hq] at hr; cases hr
  | some v =>
    rw [hq] at hr
    rw [lsub_look hl hq]
    cases v with
    | int x => exact hk _ _ _ _ _ hl hr
    | _ => cases hr
theorem am_lload {n i : Nat} : AM (a_lload n i) := by
  intro call k k' pc lo lo' st h r hl hk hr
  unfold a_lload at hr ⊢
  dsimp only at hr ⊢
  cases hq : ev_look lo i with
  | none => rw [hq] at hr; cases hr
  | some v =>
    rw [hq] at hr
    rw [lsub_look hl hq]
    cases v with
    | long x => exact hk _ _ _ _ _ hl hr
    | _ => cases hr
theorem am_aload {n i : Nat} : AM (a_aload n i) := by
  intro call k k' pc lo lo' st h r hl hk hr
  unfold a_aload at hr ⊢
  dsimp only at hr ⊢
  cases hq : ev_look lo i with
  | none => rw [hq] at hr; cases hr
  | some v =>
    rw [hq] at hr
    rw [lsub_look hl hq]
    cases v with
    | ref x => exact hk _ _ _ _ _ hl hr
    | float x => exact hk _ _ _ _ _ hl hr
    | _ => cases hr
theorem am_istore {nL n i : Nat} : AM (a_istore nL n i) := by
  intro call k k' pc lo lo' st h r hl hk hr
  match st, hr with
  | .int x :: st, hr =>
    have hr : (if i < nL then k (pc + n, ev_st1 lo i (.int x), st) h else none) = some r := hr
    show (if i < nL then k' (pc + n, ev_st1 lo' i (.int x), st) h else none) = some r
    by_cases hi : i < nL
    · rw [if_pos hi] at hr ⊢; exact hk _ _ _ _ _ (lsub_st1 hl) hr
    · rw [if_neg hi] at hr; cases hr
theorem am_astore {nL n i : Nat} : AM (a_astore nL n i) := by
  intro call k k' pc lo lo' st h r hl hk hr
  match st, hr with
  | .ref x :: st, hr =>
    have hr : (if i < nL then k (pc + n, ev_st1 lo i (.ref x), st) h else none) = some r := hr
    show (if i < nL then k' (pc + n, ev_st1 lo' i (.ref x), st) h else none) = some r
    by_cases hi : i < nL
    · rw [if_pos hi] at hr ⊢; exact hk _ _ _ _ _ (lsub_st1 hl) hr
    · rw [if_neg hi] at hr; cases hr
  | .float x :: st, hr =>
    have hr : (if i < nL then k (pc + n, ev_st1 lo i (.float x), st) h else none) = some r := hr
    show (if i < nL then k' (pc + n, ev_st1 lo' i (.float x), st) h else none) = some r
    by_cases hi : i < nL
    · rw [if_pos hi] at hr ⊢; exact hk _ _ _ _ _ (lsub_st1 hl) hr
    · rw [if_neg hi] at hr; cases hr
theorem am_lstore {nL n i : Nat} : AM (a_lstore nL n i) := by
  intro call k k' pc lo lo' st h r hl hk hr
  match st, hr with
  | .long x :: st, hr =>
    have hr : (if i + 1 < nL then k (pc + n, ev_st2 lo i (.long x), st) h else none) = some r := hr
    show (if i + 1 < nL then k' (pc + n, ev_st2 lo' i (.long x), st) h else none) = some r
    by_cases hi : i + 1 < nL
    · rw [if_pos hi] at hr ⊢; exact hk _ _ _ _ _ (lsub_st2 hl) hr
    · rw [if_neg hi] at hr; cases hr
theorem am_iinc {nL i : Nat} {d : Int32} : AM (a_iinc nL i d) := by
  intro call k k' pc lo lo' st h r hl hk hr
  unfold a_iinc at hr ⊢
  dsimp only at hr ⊢
  cases hq : ev_look lo i with
  | none => rw [hq] at hr; cases hr
  | some v =>
    rw [hq] at hr
    rw [lsub_look hl hq]
    cases v with
    | int x =>
      dsimp only at hr ⊢
      by_cases hi : i < nL
      · rw [if_pos hi] at hr ⊢; exact hk _ _ _ _ _ (lsub_st1 hl) hr
      · rw [if_neg hi] at hr; cases hr
    | _ => cases hr
theorem am_dup : AM a_dup := by
  intro call k k' pc lo lo' st h r hl hk hr
  match st, hr with
  | v :: st, hr =>
    have hr : (if v.category = 1 then k (pc + 1, lo, v :: v :: st) h else none) = some r := hr
    show (if v.category = 1 then k' (pc + 1, lo', v :: v :: st) h else none) = some r
    by_cases hi : v.category = 1
    · rw [if_pos hi] at hr ⊢; exact hk _ _ _ _ _ hl hr
    · rw [if_neg hi] at hr; cases hr
theorem am_pop : AM a_pop := by
  intro call k k' pc lo lo' st h r hl hk hr
  match st, hr with
  | v :: st, hr =>
    have hr : (if v.category = 1 then k (pc + 1, lo, st) h else none) = some r := hr
    show (if v.category = 1 then k' (pc + 1, lo', st) h else none) = some r
    by_cases hi : v.category = 1
    · rw [if_pos hi] at hr ⊢; exact hk _ _ _ _ _ hl hr
    · rw [if_neg hi] at hr; cases hr
theorem am_dupx1 : AM a_dupx1 := by
  intro call k k' pc lo lo' st h r hl hk hr
  match st, hr with
  | v :: u :: st, hr =>
    have hr : (if v.category = 1 ∧ u.category = 1 then k (pc + 1, lo, v :: u :: v :: st) h else none) = some r := hr
    show (if v.category = 1 ∧ u.category = 1 then k' (pc + 1, lo', v :: u :: v :: st) h else none) = some r
    by_cases hi : v.category = 1 ∧ u.category = 1
    · rw [if_pos hi] at hr ⊢; exact hk _ _ _ _ _ hl hr
    · rw [if_neg hi] at hr; cases hr
theorem am_dupx2 : AM a_dupx2 := by
  intro call k k' pc lo lo' st h r hl hk hr
  match st, hr with
  | v :: u :: t :: st, hr =>
    have hr : (if v.category = 1 ∧ u.category = 1 ∧ t.category = 1 then k (pc + 1, lo, v :: u :: t :: v :: st) h else none) = some r := hr
    show (if v.category = 1 ∧ u.category = 1 ∧ t.category = 1 then k' (pc + 1, lo', v :: u :: t :: v :: st) h else none) = some r
    by_cases hi : v.category = 1 ∧ u.category = 1 ∧ t.category = 1
    · rw [if_pos hi] at hr ⊢; exact hk _ _ _ _ _ hl hr
    · rw [if_neg hi] at hr; cases hr
theorem am_dup2 : AM a_dup2 := by
  intro call k k' pc lo lo' st h r hl hk hr
  match st, hr with
  | v :: u :: st, hr =>
    have hr : (if v.category = 1 ∧ u.category = 1 then k (pc + 1, lo, v :: u :: v :: u :: st) h else none) = some r := hr
    show (if v.category = 1 ∧ u.category = 1 then k' (pc + 1, lo', v :: u :: v :: u :: st) h else none) = some r
    by_cases hi : v.category = 1 ∧ u.category = 1
    · rw [if_pos hi] at hr ⊢; exact hk _ _ _ _ _ hl hr
    · rw [if_neg hi] at hr; cases hr
theorem am_tsw {l : Int} {ts : List Nat} {t : Nat} : AM (a_tsw l ts t) := by
  intro call k k' pc lo lo' st h r hl hk hr
  match st, hr with
  | .int x :: st, hr =>
    have hr : (if x.toInt < l then k (t, lo, st) h else match ts[(x.toInt - l).toNat]? with
      | some t1 => k (t1, lo, st) h
      | none => k (t, lo, st) h) = some r := hr
    show (if x.toInt < l then k' (t, lo', st) h else match ts[(x.toInt - l).toNat]? with
      | some t1 => k' (t1, lo', st) h
      | none => k' (t, lo', st) h) = some r
    by_cases hi : x.toInt < l
    · rw [if_pos hi] at hr ⊢; exact hk _ _ _ _ _ hl hr
    · rw [if_neg hi] at hr ⊢
      cases hq : ts[(x.toInt - l).toNat]? with
      | none => rw [hq] at hr; exact hk _ _ _ _ _ hl hr
      | some t1 => rw [hq] at hr; exact hk _ _ _ _ _ hl hr
theorem am_iret : AM a_iret := by
  intro call k k' pc lo lo' st h r hl hk hr
  match st, hr with
  | [.int x], hr => exact hr
theorem am_lret : AM a_lret := by
  intro call k k' pc lo lo' st h r hl hk hr
  match st, hr with
  | [.long x], hr => exact hr
theorem am_aret : AM a_aret := by
  intro call k k' pc lo lo' st h r hl hk hr
  match st, hr with
  | [.ref x], hr => exact hr
theorem am_vret : AM a_vret := by
  intro call k k' pc lo lo' st h r hl hk hr
  match st, hr with
  | [], hr => exact hr
theorem am_getf {ci kf : Nat} : AM (a_getf ci kf) := by
  intro call k k' pc lo lo' st h r hl hk hr
  match st, hr with
  | .ref a :: st, hr =>
    unfold a_getf at hr ⊢
    dsimp only at hr ⊢
    cases hq : h.1[a]? with
    | none => rw [hq] at hr; cases hr
    | some e =>
      rw [hq] at hr
      obtain ⟨t, fs⟩ := e
      cases t with
      | inl t => cases hr
      | inr c =>
        dsimp only at hr ⊢
        cases hb : Nat.beq c ci with
        | false => rw [hb] at hr; cases hr
        | true =>
          rw [hb] at hr
          dsimp only [cond_true] at hr ⊢
          cases hv : fs[kf]? with
          | none => rw [hv] at hr; cases hr
          | some v => rw [hv] at hr; exact hk _ _ _ _ _ hl hr
theorem am_putf {ty ci kf : Nat} : AM (a_putf ty ci kf) := by
  intro call k k' pc lo lo' st h r hl hk hr
  match st, hr with
  | v :: .ref a :: st, hr =>
    unfold a_putf at hr ⊢
    dsimp only at hr ⊢
    cases hq : h.1[a]? with
    | none => rw [hq] at hr; cases hr
    | some e =>
      rw [hq] at hr
      obtain ⟨t, fs⟩ := e
      cases t with
      | inl t => cases hr
      | inr c =>
        dsimp only at hr ⊢
        cases hb : (Nat.beq c ci && (ev_fit ty v && decide (kf < fs.length))) with
        | false => rw [hb] at hr; cases hr
        | true =>
          rw [hb] at hr
          exact hk _ _ _ _ _ hl hr
theorem am_ild {t : Nat} : AM (a_ild t) := by
  intro call k k' pc lo lo' st h r hl hk hr
  match st, hr with
  | .int i :: .ref a :: st, hr =>
    unfold a_ild at hr ⊢
    dsimp only at hr ⊢
    cases hq : h.1[a]? with
    | none => rw [hq] at hr; cases hr
    | some e =>
      rw [hq] at hr
      obtain ⟨t', vs⟩ := e
      cases t' with
      | inr c => cases hr
      | inl t' =>
        dsimp only at hr ⊢
        cases hb : Nat.beq t' t with
        | false => rw [hb] at hr; cases hr
        | true =>
          rw [hb] at hr
          dsimp only [cond_true] at hr ⊢
          cases hv : ev_at vs i with
          | none => rw [hv] at hr; cases hr
          | some v =>
            rw [hv] at hr
            cases v with
            | int x => exact hk _ _ _ _ _ hl hr
            | _ => cases hr
theorem am_ist {t : Nat} : AM (a_ist t) := by
  intro call k k' pc lo lo' st h r hl hk hr
  match st, hr with
  | .int x :: .int i :: .ref a :: st, hr =>
    unfold a_ist at hr ⊢
    dsimp only at hr ⊢
    cases hq : h.1[a]? with
    | none => rw [hq] at hr; cases hr
    | some e =>
      rw [hq] at hr
      obtain ⟨t', vs⟩ := e
      cases t' with
      | inr c => cases hr
      | inl t' =>
        dsimp only at hr ⊢
        cases hb : (Nat.beq t' t && ev_fit t (.int x)) with
        | false => rw [hb] at hr; cases hr
        | true =>
          rw [hb] at hr
          dsimp only [cond_true] at hr ⊢
          cases hv : ev_at vs i with
          | none => rw [hv] at hr; cases hr
          | some v => rw [hv] at hr; exact hk _ _ _ _ _ hl hr
theorem am_ald : AM a_ald := by
  intro call k k' pc lo lo' st h r hl hk hr
  match st, hr with
  | .int i :: .ref a :: st, hr =>
    unfold a_ald at hr ⊢
    dsimp only at hr ⊢
    cases hq : h.1[a]? with
    | none => rw [hq] at hr; cases hr
    | some e =>
      rw [hq] at hr
      obtain ⟨t', vs⟩ := e
      cases t' with
      | inr c => cases hr
      | inl t' =>
        dsimp only at hr ⊢
        cases hb : (Nat.ble 3 t' && Nat.ble t' 5) with
        | false => rw [hb] at hr; cases hr
        | true =>
          rw [hb] at hr
          dsimp only [cond_true] at hr ⊢
          cases hv : ev_at vs i with
          | none => rw [hv] at hr; cases hr
          | some v =>
            rw [hv] at hr
            cases v with
            | ref x => exact hk _ _ _ _ _ hl hr
            | _ => cases hr
theorem am_ast : AM a_ast := by
  intro call k k' pc lo lo' st h r hl hk hr
  match st, hr with
  | .ref x :: .int i :: .ref a :: st, hr =>
    unfold a_ast at hr ⊢
    dsimp only at hr ⊢
    cases hq : h.1[a]? with
    | none => rw [hq] at hr; cases hr
    | some e =>
      cases hqx : h.1[x]? with
      | none => rw [hq, hqx] at hr; obtain ⟨ka | ka, va⟩ := e <;> cases hr
      | some ex =>
        rw [hq, hqx] at hr
        obtain ⟨t', vs⟩ := e
        obtain ⟨tx, vx⟩ := ex
        cases t' with
        | inr c => cases hr
        | inl t' =>
          cases tx with
          | inr c => cases hr
          | inl tx =>
            dsimp only at hr ⊢
            cases hb : ev_isc t' tx with
            | false => rw [hb] at hr; cases hr
            | true =>
              rw [hb] at hr
              dsimp only [cond_true] at hr ⊢
              cases hv : ev_at vs i with
              | none => rw [hv] at hr; cases hr
              | some v => rw [hv] at hr; exact hk _ _ _ _ _ hl hr
theorem am_alen : AM a_alen := by
  intro call k k' pc lo lo' st h r hl hk hr
  match st, hr with
  | .ref a :: st, hr =>
    unfold a_alen at hr ⊢
    dsimp only at hr ⊢
    cases hq : h.1[a]? with
    | none => rw [hq] at hr; cases hr
    | some e =>
      rw [hq] at hr
      obtain ⟨t', vs⟩ := e
      cases t' with
      | inr c => cases hr
      | inl t' =>
        dsimp only at hr ⊢
        cases hb : Nat.ble t' 5 with
        | false => rw [hb] at hr; cases hr
        | true => rw [hb] at hr; exact hk _ _ _ _ _ hl hr
theorem am_new {ci n : Nat} {fs : List Value} : AM (a_new ci n fs) := fun call k k' pc lo lo' st h r hl hk hr => hk _ _ _ _ _ hl hr
theorem am_newa {t : Nat} : AM (a_newa t) := by
  intro call k k' pc lo lo' st h r hl hk hr
  match st, hr with
  | .int n :: st, hr =>
    unfold a_newa at hr ⊢
    dsimp only at hr ⊢
    by_cases hi : n < 0
    · rw [if_pos hi] at hr; cases hr
    · rw [if_neg hi] at hr ⊢
      cases hb : Nat.ble (n.toNatClampNeg * 8) 536870912 with
      | false => rw [hb] at hr; cases hr
      | true => rw [hb] at hr; exact hk _ _ _ _ _ hl hr
theorem am_newq {t : Nat} : AM (a_newq t) := by
  intro call k k' pc lo lo' st h r hl hk hr
  match st, hr with
  | .int n :: st, hr =>
    unfold a_newq at hr ⊢
    dsimp only at hr ⊢
    by_cases hi : n < 0
    · rw [if_pos hi] at hr; cases hr
    · rw [if_neg hi] at hr ⊢
      cases hb : Nat.ble (n.toNatClampNeg * 8) 536870912 with
      | false => rw [hb] at hr; cases hr
      | true => rw [hb] at hr; exact hk _ _ _ _ _ hl hr
theorem am_cpq : AM a_cpq := by
  intro call k k' pc lo lo' st h r hl hk hr
  match st, hr with
  | .int n :: .int dp :: .ref b :: .int sp :: .ref a :: st, hr =>
    unfold a_cpq at hr ⊢
    dsimp only at hr ⊢
    cases hq : h.1[a]? with
    | none => rw [hq] at hr; cases hr
    | some e =>
      cases hqx : h.1[b]? with
      | none => rw [hq, hqx] at hr; obtain ⟨ka | ka, va⟩ := e <;> cases hr
      | some ex =>
        rw [hq, hqx] at hr
        obtain ⟨t', v0⟩ := e
        obtain ⟨tx, v1⟩ := ex
        cases t' with
        | inr c => cases hr
        | inl t' =>
          cases tx with
          | inr c => cases hr
          | inl tx =>
            dsimp only at hr ⊢
            cases hb : ((Nat.beq t' tx && (Nat.ble 3 t' && Nat.ble t' 5)) && ((decide (sp = 0) && decide (dp = 0)) && (decide (0 ≤ n) && (Nat.ble n.toNatClampNeg v0.length && (Nat.ble n.toNatClampNeg v1.length && (((v0.take n.toNatClampNeg).all (ev_el h.1 t')) && Nat.ble ((st.map fun v => v.category).sum) 8)))))) with
            | false => rw [hb] at hr; cases hr
            | true => rw [hb] at hr; exact hk _ _ _ _ _ hl hr
theorem am_sld {sc : Nat × (Nat → Int32)} : AM (a_sld sc) := by
  intro call k k' pc lo lo' st h r hl hk hr
  match st, hr with
  | .int i :: .float z :: st, hr =>
    unfold a_sld at hr ⊢
    dsimp only at hr ⊢
    cases hb : (Nat.beq z.toNat 0 && (!decide (i < 0) && !Nat.ble sc.1 i.toNatClampNeg)) with
    | false => rw [hb] at hr; cases hr
    | true => rw [hb] at hr; exact hk _ _ _ _ _ hl hr
theorem am_slen {sc : Nat × (Nat → Int32)} : AM (a_slen sc) := by
  intro call k k' pc lo lo' st h r hl hk hr
  match st, hr with
  | .float z :: st, hr =>
    unfold a_slen at hr ⊢
    dsimp only at hr ⊢
    cases hb : Nat.beq z.toNat 0 with
    | false => rw [hb] at hr; cases hr
    | true => rw [hb] at hr; exact hk _ _ _ _ _ hl hr
theorem am_objI : AM a_objI := by
  intro call k k' pc lo lo' st h r hl hk hr
  match st, hr with
  | .ref a :: st, hr =>
    unfold a_objI at hr ⊢
    dsimp only at hr ⊢
    cases hb : Nat.ble ((st.map fun v => v.category).sum) 8 with
    | false => rw [hb] at hr; cases hr
    | true => rw [hb] at hr; exact hk _ _ _ _ _ hl hr
theorem am_inv {thr : Bool} {y N : Nat} {ci : Option Nat} : AM (a_inv thr y N ci) := by
  intro call k k' pc lo lo' st h r hl hk hr
  unfold a_inv at hr ⊢
  dsimp only at hr ⊢
  cases hb : (Nat.ble N st.length && (Nat.ble (((st.drop N).map fun v => v.category).sum) 8 && ev_recv ci (st.take N).reverse h.1)) with
  | false => rw [hb] at hr; cases hr
  | true =>
    rw [hb] at hr
    dsimp only [cond_true] at hr ⊢
    cases hq : call y (st.take N).reverse h with
    | none => rw [hq] at hr; cases hr
    | some z =>
      rw [hq] at hr
      obtain ⟨z, h1⟩ := z
      cases z with
      | inl v => exact hk _ _ _ _ _ hl hr
      | inr E => exact hr
theorem am_t_l {k : Nat} {a : EA} (h : AM a) : ∀ pc, AM (t_l k a pc) := by
  intro pc
  unfold t_l
  cases Nat.beq pc k with
  | true => exact h
  | false => exact am_no
theorem am_t_n {k : Nat} {a b : Nat → EA} (ha : ∀ pc, AM (a pc)) (hb : ∀ pc, AM (b pc)) : ∀ pc, AM (t_n k a b pc) := by
  intro pc
  unfold t_n
  cases Nat.ble k pc with
  | true => exact hb pc
  | false => exact ha pc
theorem am_run {code : Nat → EA} (hc : ∀ pc, AM (code pc)) (call : ECall) : ∀ (n pc : Nat) (lo lo' : List (Nat × Value)) (st : List Value) (h : EH) (r : (Option Value ⊕ String) × EH), lsub lo lo' → ev_run code call n (pc, lo, st) h = some r → ev_run code call n (pc, lo', st) h = some r := by
  intro n
  induction n with
  | zero => intro pc lo lo' st h r hl hr; cases hr
  | succ n ih =>
    intro pc lo lo' st h r hl hr
    exact hc pc call (ev_run code call n) (ev_run code call n) pc lo lo' st h r hl (fun pc1 lo1 lo1' st1 h1 hl1 h2 => ih pc1 lo1 lo1' st1 h1 r hl1 h2) hr
theorem rx_lo {sc : Nat × (Nat → Int32)} {code : Nat → EA} (hc : ∀ pc, AM (code pc)) {r pc : Nat} {lo lo' : List (Nat × Value)} {st : List Value} {h h' : EH} {o : Option Value} (h1 : ∀ q ∈ lo, q ∈ lo') (h2 : ndk lo' = true) (hx : Rx sc code r (pc, lo, st) h o h') : Rx sc code r (pc, lo', st) h o h' := by
  obtain ⟨N, F, hx⟩ := hx
  exact ⟨N, F, fun fu hf d hd m => am_run hc _ _ _ _ _ _ _ _ ⟨h1, h2⟩ (hx fu hf d hd m)⟩
