/-! PURE: homes -/
def hmo (σ : PvS) : Nat → Option Nat := fun n => σ.2.2.1 2 1 n
/-- what is prepared -/
def ST (σ : PvS) : Prop := WF σ ∧ SR σ ∧ ∀ n, alive σ n → Pr1 σ n
theorem ST.f {σ : PvS} (h : ST σ) : WF σ := h.1
theorem ST.s {σ : PvS} (h : ST σ) {n p : Nat} (a : alive σ n) (hp : p < 14) : srg p (sty σ n p) := h.2.1 n a p hp
theorem ST.p {σ : PvS} (h : ST σ) {n : Nat} (a : alive σ n) : Pr1 σ n := h.2.2 n a
theorem ST.sort {σ : PvS} (h : ST σ) {n : Nat} (a : alive σ n) : σ.2.1 2 0 n = srtv σ n := (h.p a).1
theorem ST.inset {σ : PvS} (h : ST σ) {n : Nat} (a : alive σ n) : (σ.2.1 2 2 n).toInt = (sty σ n 5).toInt + (sty σ n 4).toInt ∧ 0 ≤ (σ.2.1 2 2 n).toInt ∧ (σ.2.1 2 2 n).toInt ≤ 12 := by
  have h5 : 0 ≤ (sty σ n 5).toInt ∧ (sty σ n 5).toInt ≤ 4 := h.s a (p := 5) (by decide)
  have h4 : 0 ≤ (sty σ n 4).toInt ∧ (sty σ n 4).toInt ≤ 8 := h.s a (p := 4) (by decide)
  rw [(h.p a).2.2.1, ti_add (by omega) (by omega)]
  omega
theorem ST.edge {σ : PvS} (h : ST σ) {n : Nat} (a : alive σ n) : (σ.2.1 2 3 n).toInt = (σ.2.1 2 2 n).toInt + (sty σ n 3).toInt ∧ 0 ≤ (σ.2.1 2 3 n).toInt ∧ (σ.2.1 2 3 n).toInt ≤ 23 ∧ 0 ≤ (sty σ n 3).toInt ∧ (sty σ n 3).toInt ≤ 11 := by
  have h3 : 0 ≤ (sty σ n 3).toInt ∧ (sty σ n 3).toInt ≤ 11 := h.s a (p := 3) (by decide)
  have hi := h.inset a
  rw [(h.p a).2.2.2.1, ← (h.p a).2.2.1, ti_add (by omega) (by omega)]
  omega
theorem ST.root {σ : PvS} (h : ST σ) : σ.2.1 2 0 0 = 3 ∧ hmo σ 0 = none := by
  have a := h.f.t.alive0
  have r := h.f.t.root.2
  refine ⟨?_, ?_⟩
  · rw [h.sort a]; unfold srtv; rw [r]
  · show σ.2.2.1 2 1 0 = none
    rw [(h.p a).2.1]; unfold hmv; rw [r]
theorem ST.hm_eq {σ : PvS} (h : ST σ) {n u : Nat} (a : alive σ n) (e : par σ n = some u) : hmo σ n = if isbx (σ.2.1 2 0 u) then some u else hmo σ u := by
  show σ.2.2.1 2 1 n = _
  rw [(h.p a).2.1]
  unfold hmv
  rw [e]
  rfl
theorem ST.hm {σ : PvS} (h : ST σ) {dp : Nat → Nat} (d3 : ∀ v u, v < σ.1 0 → par σ v = some u → dp v = dp u + 1) : ∀ {m n b : Nat}, dp n = m → alive σ n → hmo σ n = some b → alive σ b ∧ isbx (σ.2.1 2 0 b) ∧ dp b < dp n := by
  intro m
  induction m with
  | zero =>
    intro n b e a q
    cases z : par σ n with
    | none =>
      have q : σ.2.2.1 2 1 n = some b := q
      rw [(h.p a).2.1] at q
      unfold hmv at q
      rw [z] at q
      cases q
    | some u => have := d3 n u (h.f.t.alive_lt a) z; omega
  | succ m ih =>
    intro n b e a q
    cases z : par σ n with
    | none =>
      have q : σ.2.2.1 2 1 n = some b := q
      rw [(h.p a).2.1] at q
      unfold hmv at q
      rw [z] at q
      cases q
    | some u =>
      have hd := d3 n u (h.f.t.alive_lt a) z
      have au := h.f.t.alive_par a z
      rw [h.hm_eq a z] at q
      by_cases hb : isbx (σ.2.1 2 0 u)
      · rw [if_pos hb] at q; cases q
        exact ⟨au, hb, by omega⟩
      · rw [if_neg hb] at q
        obtain ⟨q1, q2, q3⟩ := ih (by omega) au q
        exact ⟨q1, q2, by omega⟩
theorem ST.has {σ : PvS} (h : ST σ) {dp : Nat → Nat} (d3 : ∀ v u, v < σ.1 0 → par σ v = some u → dp v = dp u + 1) : ∀ {m n : Nat}, dp n = m → alive σ n → n ≠ 0 → ∃ b, hmo σ n = some b := by
  intro m
  induction m with
  | zero =>
    intro n e a n0
    obtain ⟨u, z⟩ := h.f.t.alive_has a n0
    have := d3 n u (h.f.t.alive_lt a) z
    omega
  | succ m ih =>
    intro n e a n0
    obtain ⟨u, z⟩ := h.f.t.alive_has a n0
    have hd := d3 n u (h.f.t.alive_lt a) z
    rw [h.hm_eq a z]
    by_cases hb : isbx (σ.2.1 2 0 u)
    · exact ⟨u, if_pos hb⟩
    · rw [if_neg hb]
      exact ih (by omega) (h.f.t.alive_par a z) (fun q => hb (by rw [q, h.root.1]; exact Or.inl rfl))
/-- levels of homes -/
def hlf (σ : PvS) : Nat → Nat → Nat
  | 0, _ => 0
  | k + 1, n => match hmo σ n with
    | none => 0
    | some b => hlf σ k b + 1
def hl (σ : PvS) : Nat → Nat := hlf σ 11
theorem hlf_stab {σ : PvS} (h : ST σ) {dp : Nat → Nat} (d3 : ∀ v u, v < σ.1 0 → par σ v = some u → dp v = dp u + 1) : ∀ {m n k k' : Nat}, dp n = m → alive σ n → m < k → m < k' → hlf σ k n = hlf σ k' n ∧ hlf σ k n ≤ m := by
  intro m
  induction m using Nat.strongRecOn with
  | _ m ih =>
    intro n k k' e a hk hk'
    obtain ⟨k, rfl⟩ : ∃ q, k = q + 1 := ⟨k - 1, by omega⟩
    obtain ⟨k', rfl⟩ : ∃ q, k' = q + 1 := ⟨k' - 1, by omega⟩
    show (match hmo σ n with | none => 0 | some b => hlf σ k b + 1) = (match hmo σ n with | none => 0 | some b => hlf σ k' b + 1) ∧ (match hmo σ n with | none => 0 | some b => hlf σ k b + 1) ≤ m
    cases q : hmo σ n with
    | none => exact ⟨rfl, Nat.zero_le _⟩
    | some b =>
      obtain ⟨b1, b2, b3⟩ := h.hm d3 rfl a q
      have := ih (dp b) (by omega) (k := k) (k' := k') rfl b1 (by omega) (by omega)
      exact ⟨by show hlf σ k b + 1 = hlf σ k' b + 1; omega, by show hlf σ k b + 1 ≤ m; omega⟩
theorem hl_s {σ : PvS} (h : ST σ) {n b : Nat} (a : alive σ n) (e : hmo σ n = some b) : hl σ n = hl σ b + 1 := by
  obtain ⟨dp, d1, d2, d3⟩ := h.f.t.dp
  obtain ⟨b1, b2, b3⟩ := h.hm d3 rfl a e
  have h1 := d1 n (h.f.t.alive_lt a)
  have h2 := d1 b (h.f.t.alive_lt b1)
  have e1 : hlf σ 11 n = hlf σ 10 b + 1 := by
    show (match hmo σ n with | none => 0 | some b => hlf σ 10 b + 1) = _
    rw [e]
  have e2 := (hlf_stab h d3 (n := b) (k := 10) (k' := 11) rfl b1 (by omega) (by omega)).1
  show hlf σ 11 n = hlf σ 11 b + 1
  omega
theorem hl_0 {σ : PvS} (h : ST σ) : hl σ 0 = 0 := by
  show (match hmo σ 0 with | none => 0 | some b => hlf σ 10 b + 1) = 0
  rw [h.root.2]
theorem hl_le {σ : PvS} (h : ST σ) {n : Nat} (a : alive σ n) : hl σ n ≤ 10 := by
  obtain ⟨dp, d1, d2, d3⟩ := h.f.t.dp
  have h1 := d1 n (h.f.t.alive_lt a)
  have := (hlf_stab h d3 (n := n) (k := 11) (k' := 11) rfl a (by omega) (by omega)).2
  unfold hl
  omega
theorem hm_alive {σ : PvS} (h : ST σ) {n b : Nat} (a : alive σ n) (e : hmo σ n = some b) : alive σ b ∧ isbx (σ.2.1 2 0 b) := by
  obtain ⟨dp, d1, d2, d3⟩ := h.f.t.dp
  obtain ⟨b1, b2, -⟩ := h.hm d3 rfl a e
  exact ⟨b1, b2⟩
theorem hm_has {σ : PvS} (h : ST σ) {n : Nat} (a : alive σ n) (n0 : n ≠ 0) : ∃ b, hmo σ n = some b := by
  obtain ⟨dp, d1, d2, d3⟩ := h.f.t.dp
  exact h.has d3 rfl a n0
/-- a home comes ahead -/
theorem hm_first {σ : PvS} (h : ST σ) {dp : Nat → Nat} (d3 : ∀ v u, v < σ.1 0 → par σ v = some u → dp v = dp u + 1) : ∀ {m n b : Nat} {xs ys : List Nat}, dp n = m → σ.2.2.2.2 1 = xs ++ n :: ys → hmo σ n = some b → b ∈ xs := by
  intro m
  induction m with
  | zero =>
    intro n b xs ys e hO q
    have a : alive σ n := by show n ∈ σ.2.2.2.2 1; rw [hO]; exact List.mem_append_right _ List.mem_cons_self
    obtain ⟨b1, b2, b3⟩ := h.hm d3 rfl a q
    omega
  | succ m ih =>
    intro n b xs ys e hO q
    have a : alive σ n := by show n ∈ σ.2.2.2.2 1; rw [hO]; exact List.mem_append_right _ List.mem_cons_self
    cases z : par σ n with
    | none =>
      have q : σ.2.2.1 2 1 n = some b := q
      rw [(h.p a).2.1] at q
      unfold hmv at q
      rw [z] at q
      cases q
    | some u =>
      have hd := d3 n u (h.f.t.alive_lt a) z
      have hu := h.f.t.first hO z
      rw [h.hm_eq a z] at q
      by_cases hb : isbx (σ.2.1 2 0 u)
      · rw [if_pos hb] at q; cases q; exact hu
      · rw [if_neg hb] at q
        obtain ⟨as, bs, rfl⟩ := List.append_of_mem hu
        have := ih (n := u) (xs := as) (ys := bs ++ n :: ys) (by omega) (by rw [hO, List.append_assoc]; rfl) q
        exact List.mem_append_left _ this
theorem ST.first {σ : PvS} (h : ST σ) {n b : Nat} {xs ys : List Nat} (hO : σ.2.2.2.2 1 = xs ++ n :: ys) (q : hmo σ n = some b) : b ∈ xs := by
  obtain ⟨dp, d1, d2, d3⟩ := h.f.t.dp
  exact hm_first h d3 rfl hO q
/-- what two prepared states have in common -/
def AGp (σ σ' : PvS) : Prop := dc σ' = dc σ ∧ (∀ n, alive σ n → ∀ p, p < 14 → sty σ' n p = sty σ n p) ∧ ∀ n, alive σ n → σ'.2.1 2 0 n = σ.2.1 2 0 n ∧ hmo σ' n = hmo σ n ∧ σ'.2.1 2 2 n = σ.2.1 2 2 n ∧ σ'.2.1 2 3 n = σ.2.1 2 3 n ∧ σ'.2.1 2 4 n = σ.2.1 2 4 n
theorem prep_det {σ σ' : PvS} (h : ST σ) (h' : ST σ') (e : dc σ' = dc σ) (es : ∀ n, alive σ n → ∀ p, p < 14 → sty σ' n p = sty σ n p) : AGp σ σ' := by
  have al : ∀ n, alive σ n → alive σ' n := fun n a => by show n ∈ σ'.2.2.2.2 1; rw [dc_L e]; exact a
  have srt : ∀ n, alive σ n → σ'.2.1 2 0 n = σ.2.1 2 0 n := fun n a => by
    rw [h.sort a, h'.sort (al n a)]
    unfold srtv
    rw [dc_par e, dc_I e rfl, es n a 6 (by decide), es n a 0 (by decide)]
  obtain ⟨dp, d1, d2, d3⟩ := h.f.t.dp
  have hom : ∀ m n, dp n = m → alive σ n → hmo σ' n = hmo σ n := by
    intro m
    induction m with
    | zero =>
      intro n e0 a
      cases z : par σ n with
      | none =>
        show σ'.2.2.1 2 1 n = σ.2.2.1 2 1 n
        rw [(h.p a).2.1, (h'.p (al n a)).2.1]
        unfold hmv
        rw [dc_par e, z]
      | some u => have := d3 n u (h.f.t.alive_lt a) z; omega
    | succ m ih =>
      intro n e0 a
      cases z : par σ n with
      | none => have := d2 n (h.f.t.alive_lt a) z; omega
      | some u =>
        have hd := d3 n u (h.f.t.alive_lt a) z
        have au := h.f.t.alive_par a z
        rw [h.hm_eq a z, h'.hm_eq (al n a) (by rw [dc_par e]; exact z), srt u au, ih u (by omega) au]
  refine ⟨e, es, fun n a => ⟨srt n a, hom _ n rfl a, ?_, ?_, ?_⟩⟩
  · rw [(h.p a).2.2.1, (h'.p (al n a)).2.2.1, es n a 5 (by decide), es n a 4 (by decide)]
  · rw [(h.p a).2.2.2.1, (h'.p (al n a)).2.2.2.1, es n a 5 (by decide), es n a 4 (by decide), es n a 3 (by decide)]
  · rw [(h.p a).2.2.2.2, (h'.p (al n a)).2.2.2.2]
    unfold scrv
    rw [es n a 11 (by decide), ← h.sort a, ← h'.sort (al n a), srt n a]
/-! counting -/
def sumf (f : Nat → Nat) : List Nat → Nat
  | [] => 0
  | x :: l => f x + sumf f l
theorem sumf_app (f : Nat → Nat) : ∀ a b : List Nat, sumf f (a ++ b) = sumf f a + sumf f b := by
  intro a
  induction a with
  | nil => intro b; show sumf f b = 0 + sumf f b; omega
  | cons x a ih => intro b; show f x + sumf f (a ++ b) = f x + sumf f a + sumf f b; rw [ih]; omega
theorem sumf_le {f g : Nat → Nat} : ∀ {l : List Nat}, (∀ x ∈ l, f x ≤ g x) → sumf f l ≤ sumf g l := by
  intro l
  induction l with
  | nil => intro _; exact Nat.le_refl _
  | cons x l ih =>
    intro h
    have := h x List.mem_cons_self
    have := ih (fun y hy => h y (List.mem_cons_of_mem _ hy))
    show f x + sumf f l ≤ g x + sumf g l
    omega
/-- how many places a node is charged for, those in it counted -/
def cnt (O : List Nat) (p : Nat → Option Nat) : Nat → Nat → Nat
  | 0, _ => 0
  | d + 1, b => 1 + sumf (cnt O p d) (O.filter (fun n => decide (p n = some b)))
theorem sumf_fil (f : Nat → Nat) (p : Nat → Bool) : ∀ l : List Nat, sumf f (l.filter p) = sumf (fun x => if p x then f x else 0) l := by
  intro l
  induction l with
  | nil => rfl
  | cons x l ih =>
    by_cases h : p x = true
    · rw [List.filter_cons_of_pos h]
      show f x + sumf f (l.filter p) = (if p x = true then f x else 0) + sumf _ l
      rw [if_pos h, ih]
    · rw [List.filter_cons_of_neg h]
      show sumf f (l.filter p) = (if p x = true then f x else 0) + sumf _ l
      rw [if_neg h, ih, Nat.zero_add]
theorem sumf_add (f g : Nat → Nat) : ∀ l : List Nat, sumf (fun x => f x + g x) l = sumf f l + sumf g l := by
  intro l
  induction l with
  | nil => rfl
  | cons x l ih => show f x + g x + sumf _ l = f x + sumf f l + (g x + sumf g l); rw [ih]; omega
theorem sumf_zero : ∀ l : List Nat, sumf (fun _ => 0) l = 0 := by
  intro l
  induction l with
  | nil => rfl
  | cons x l ih => show 0 + sumf _ l = 0; rw [ih]
theorem sumf_swap (F : Nat → Nat → Nat) : ∀ (a b : List Nat), sumf (fun x => sumf (fun y => F x y) b) a = sumf (fun y => sumf (fun x => F x y) a) b := by
  intro a
  induction a with
  | nil => intro b; exact (sumf_zero b).symm
  | cons x a ih =>
    intro b
    show sumf (fun y => F x y) b + sumf (fun x => sumf (fun y => F x y) b) a = sumf (fun y => F x y + sumf (fun x => F x y) a) b
    rw [ih b, sumf_add]
theorem sumf_once {w : Nat} {v : Nat} : ∀ {l : List Nat}, l.Nodup → sumf (fun x => if x = w then v else 0) l ≤ v := by
  intro l
  induction l with
  | nil => intro _; exact Nat.zero_le _
  | cons x l ih =>
    intro hn
    rw [List.nodup_cons] at hn
    show (if x = w then v else 0) + sumf _ l ≤ v
    by_cases e : x = w
    · rw [if_pos e]
      have : sumf (fun x => if x = w then v else 0) l = 0 := by
        have h0 : sumf (fun x => if x = w then v else 0) l ≤ sumf (fun _ => 0) l := sumf_le (fun y hy => by rw [if_neg (fun q => hn.1 (by rw [e, ← q]; exact hy))]; exact Nat.le_refl _)
        rw [sumf_zero] at h0; omega
      rw [this]; omega
    · rw [if_neg e]; have := ih hn.2; omega
/-- the nodes at one level -/
def lev (O : List Nat) (g : Nat → Nat) (i : Nat) : List Nat := O.filter (fun n => decide (g n = i))
theorem cnt_lev {O : List Nat} {p : Nat → Option Nat} {g : Nat → Nat} (hn : O.Nodup) (hg : ∀ n ∈ O, ∀ b, p n = some b → g n = g b + 1) : ∀ d i, sumf (cnt O p d) (lev O g i) ≤ sumf (fun n => if i ≤ g n ∧ g n < i + d then 1 else 0) O := by
  intro d
  induction d with
  | zero =>
    intro i
    have : sumf (cnt O p 0) (lev O g i) ≤ sumf (fun _ => 0) (lev O g i) := sumf_le (fun x _ => Nat.le_refl _)
    rw [sumf_zero] at this; omega
  | succ d ih =>
    intro i
    have h1 : sumf (cnt O p (d + 1)) (lev O g i) = sumf (fun _ => 1) (lev O g i) + sumf (fun b => sumf (fun n => if p n = some b then cnt O p d n else 0) O) (lev O g i) := by
      rw [← sumf_add]
      have : ∀ l : List Nat, sumf (cnt O p (d + 1)) l = sumf (fun x => 1 + sumf (fun n => if p n = some x then cnt O p d n else 0) O) l := by
        intro l
        induction l with
        | nil => rfl
        | cons b l ihl =>
          show cnt O p (d + 1) b + _ = _
          rw [ihl]
          show 1 + sumf (cnt O p d) (O.filter (fun n => decide (p n = some b))) + _ = 1 + sumf (fun n => if p n = some b then cnt O p d n else 0) O + _
          rw [sumf_fil]
          simp only [decide_eq_true_eq]
      exact this _
    have h2 : sumf (fun b => sumf (fun n => if p n = some b then cnt O p d n else 0) O) (lev O g i) ≤ sumf (cnt O p d) (lev O g (i + 1)) := by
      rw [sumf_swap]
      unfold lev
      rw [sumf_fil (cnt O p d)]
      refine sumf_le (fun n hnO => ?_)
      cases e : p n with
      | none =>
        have : sumf (fun b => if none = some b then cnt O p d n else 0) (O.filter (fun n => decide (g n = i))) ≤ sumf (fun _ => 0) (O.filter (fun n => decide (g n = i))) := sumf_le (fun b _ => by rw [if_neg (fun q => nomatch q)]; exact Nat.le_refl _)
        rw [sumf_zero] at this
        exact Nat.le_trans this (Nat.zero_le _)
      | some w =>
        have hw := hg n hnO w e
        by_cases hi : g n = i + 1
        · rw [if_pos (by rw [decide_eq_true_eq]; exact hi)]
          have : sumf (fun b => if some w = some b then cnt O p d n else 0) (O.filter (fun n => decide (g n = i))) ≤ sumf (fun b => if b = w then cnt O p d n else 0) (O.filter (fun n => decide (g n = i))) := sumf_le (fun b _ => by
            by_cases z : b = w
            · rw [if_pos (by rw [z]), if_pos z]; exact Nat.le_refl _
            · rw [if_neg (fun q => z (Option.some.inj q).symm)]; exact Nat.zero_le _)
          exact Nat.le_trans this (sumf_once (hn.filter _))
        · have : sumf (fun b => if some w = some b then cnt O p d n else 0) (O.filter (fun n => decide (g n = i))) ≤ sumf (fun _ => 0) (O.filter (fun n => decide (g n = i))) := sumf_le (fun b hb => by
            have hb := (List.mem_filter.mp hb).2
            rw [decide_eq_true_eq] at hb
            rw [if_neg (fun q => hi (by cases q; omega))]; exact Nat.le_refl _)
          rw [sumf_zero] at this
          exact Nat.le_trans this (Nat.zero_le _)
    have h3 := ih (i + 1)
    have h4 : sumf (fun _ => 1) (lev O g i) + sumf (fun n => if i + 1 ≤ g n ∧ g n < i + 1 + d then 1 else 0) O ≤ sumf (fun n => if i ≤ g n ∧ g n < i + (d + 1) then 1 else 0) O := by
      unfold lev
      rw [sumf_fil, ← sumf_add]
      refine sumf_le (fun n _ => ?_)
      simp only [decide_eq_true_eq]
      by_cases c1 : g n = i
      · rw [if_pos c1, if_neg (by omega), if_pos (by omega)]; exact Nat.le_refl _
      · rw [if_neg c1]
        by_cases c2 : i + 1 ≤ g n ∧ g n < i + 1 + d
        · rw [if_pos c2, if_pos (by omega)]; exact Nat.le_refl _
        · rw [if_neg c2]; exact Nat.zero_le _
    rw [h1]
    omega
theorem sumf_one : ∀ l : List Nat, sumf (fun _ => 1) l = l.length := by
  intro l
  induction l with
  | nil => rfl
  | cons x l ih => show 1 + sumf _ l = l.length + 1; rw [ih]; omega
theorem sumf_mem {f : Nat → Nat} {x : Nat} : ∀ {l : List Nat}, x ∈ l → f x ≤ sumf f l := by
  intro l
  induction l with
  | nil => intro h; cases h
  | cons y l ih =>
    intro h
    show f x ≤ f y + sumf f l
    rcases List.mem_cons.mp h with q | q
    · rw [q]; omega
    · have := ih q; omega
/-- all nodes together -/
theorem cnt_root {σ : PvS} (h : ST σ) (d : Nat) : cnt (σ.2.2.2.2 1) (hmo σ) d 0 ≤ σ.1 0 := by
  have h1 := cnt_lev (O := σ.2.2.2.2 1) (p := hmo σ) (g := hl σ) h.f.t.nodup (fun n a b e => hl_s h a e) d 0
  have h2 : sumf (fun n => if 0 ≤ hl σ n ∧ hl σ n < 0 + d then 1 else 0) (σ.2.2.2.2 1) ≤ sumf (fun _ => 1) (σ.2.2.2.2 1) := sumf_le (fun x _ => by split <;> omega)
  rw [sumf_one] at h2
  have h3 : cnt (σ.2.2.2.2 1) (hmo σ) d 0 ≤ sumf (cnt (σ.2.2.2.2 1) (hmo σ) d) (lev (σ.2.2.2.2 1) (hl σ) 0) := sumf_mem (List.mem_filter.mpr ⟨h.f.t.alive0, by rw [decide_eq_true_eq]; exact hl_0 h⟩)
  have := h.f.t.len
  omega
