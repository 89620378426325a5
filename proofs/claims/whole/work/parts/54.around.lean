/-! Both chains together go round. -/
def npt (pt : Nat → Int × Int) (i : Nat) : Int × Int := (-(pt i).1, -(pt i).2)
theorem npt_lex {pt : Nat → Int × Int} {a b : Nat} : lex (npt pt a) (npt pt b) ↔ lex (pt b) (pt a) := by
  unfold lex npt
  dsimp only
  omega
theorem npt_ori (pt : Nat → Int × Int) (a b c : Nat) : ori (npt pt a) (npt pt b) (npt pt c) = ori (pt a) (pt b) (pt c) := by
  unfold ori npt
  dsimp only
  grind
theorem npt_pop (pt : Nat → Int × Int) (s : Nat) : ∀ R : List Nat, popR (npt pt) R s = popR pt R s := by
  intro R
  induction R with
  | nil => rfl
  | cons b R ih =>
    cases R with
    | nil => rfl
    | cons a R => rw [popR, popR, npt_ori, ih]
theorem npt_push (pt : Nat → Int × Int) : ∀ (l R : List Nat), pushAll (npt pt) R l = pushAll pt R l := by
  intro l
  induction l with
  | nil => intro R; rfl
  | cons s l ih => intro R; rw [pushAll, pushAll, npt_pop, ih]
theorem pop_bot {pt : Nat → Int × Int} {s m : Nat} : ∀ R : List Nat, Bot m R → Bot m (popR pt R s) := by
  intro R
  induction R with
  | nil => intro h; exact h
  | cons b R ih =>
    intro h
    cases R with
    | nil => exact h
    | cons a R =>
      rw [popR]
      split
      · exact ih h
      · exact h
theorem bot_cons {m s : Nat} {R : List Nat} (h : Bot m R) : Bot m (s :: R) := by
  cases R with
  | nil => exact absurd h id
  | cons a R => exact h
theorem pop_app {pt : Nat → Int × Int} {s m : Nat} {P : List Nat} (hP : ∀ c, P.head? = some c → 0 ≤ ori (pt c) (pt m) (pt s)) : ∀ U : List Nat, Bot m U → popR pt (U ++ P) s = popR pt U s ++ P := by
  intro U
  induction U with
  | nil => intro h; exact absurd h id
  | cons b U ih =>
    intro h
    cases U with
    | nil =>
      have e : b = m := h
      subst e
      cases P with
      | nil => rfl
      | cons c P =>
        show popR pt (b :: c :: P) s = b :: c :: P
        rw [popR, if_neg (Int.not_lt.mpr (hP c rfl))]
    | cons a U =>
      have := ih h
      show popR pt (b :: a :: (U ++ P)) s = _
      rw [popR, popR]
      split
      · exact this
      · rfl
theorem push_app {pt : Nat → Int × Int} {m : Nat} {P : List Nat} : ∀ (l U : List Nat), (∀ s ∈ l, ∀ c, P.head? = some c → 0 ≤ ori (pt c) (pt m) (pt s)) → Bot m U → pushAll pt (U ++ P) l = pushAll pt U l ++ P := by
  intro l
  induction l with
  | nil => intro U _ _; rfl
  | cons s l ih =>
    intro U hP hB
    rw [pushAll, pushAll, pop_app (hP s (by simp)) U hB]
    exact ih (s :: popR pt U s) (fun q hq => hP q (List.mem_cons_of_mem _ hq)) (bot_cons (pop_bot U hB))
/-- from a on to b: all sites on the left, none between -/
def Nx (pt : Nat → Int × Int) (pr : Nat → Prop) (a b : Nat) : Prop := (lex (pt a) (pt b) ∨ lex (pt b) (pt a)) ∧ (∀ r, pr r → 0 ≤ ori (pt a) (pt b) (pt r)) ∧ (∀ r, pr r → ((lex (pt a) (pt r) ∧ lex (pt r) (pt b)) ∨ (lex (pt b) (pt r) ∧ lex (pt r) (pt a))) → 0 < ori (pt a) (pt b) (pt r))
def AdjOK (pt : Nat → Int × Int) (pr : Nat → Prop) : List Nat → Prop
  | b :: a :: R => Nx pt pr a b ∧ AdjOK pt pr (a :: R)
  | _ => True
theorem nx_low {pt : Nat → Int × Int} {pr : Nat → Prop} {a b : Nat} (h : EdgeOK pt pr a b) : Nx pt pr a b :=
  ⟨Or.inl h.1, h.2.1, fun r hr k => k.elim (fun k => h.2.2 r hr k.1 k.2) (fun k => absurd (lex_tr k.1 k.2) (lex_asym h.1))⟩
theorem nx_up {pt : Nat → Int × Int} {pr : Nat → Prop} {a b : Nat} (h : EdgeOK (npt pt) pr a b) : Nx pt pr a b := by
  obtain ⟨h1, h2, h3⟩ := h
  refine ⟨Or.inr (npt_lex.mp h1), fun r hr => by rw [← npt_ori]; exact h2 r hr, fun r hr k => ?_⟩
  rw [← npt_ori]
  rcases k with k | k
  · exact absurd (lex_tr k.1 k.2) (lex_asym (npt_lex.mp h1))
  · exact h3 r hr (npt_lex.mpr k.2) (npt_lex.mpr k.1)
theorem adj_low {pt : Nat → Int × Int} {pr : Nat → Prop} : ∀ R : List Nat, ChainOK pt pr R → AdjOK pt pr R := by
  intro R
  induction R with
  | nil => intro _; exact trivial
  | cons b R ih =>
    intro h
    cases R with
    | nil => exact trivial
    | cons a R => exact ⟨nx_low h.1, ih h.2⟩
theorem adj_up {pt : Nat → Int × Int} {pr : Nat → Prop} : ∀ R : List Nat, ChainOK (npt pt) pr R → AdjOK pt pr R := by
  intro R
  induction R with
  | nil => intro _; exact trivial
  | cons b R ih =>
    intro h
    cases R with
    | nil => exact trivial
    | cons a R => exact ⟨nx_up h.1, ih h.2⟩
theorem adj_app {pt : Nat → Int × Int} {pr : Nat → Prop} {m : Nat} {P : List Nat} (h2 : AdjOK pt pr (m :: P)) : ∀ U : List Nat, AdjOK pt pr U → Bot m U → AdjOK pt pr (U ++ P) := by
  intro U
  induction U with
  | nil => intro _ h; exact absurd h id
  | cons b U ih =>
    intro h hB
    cases U with
    | nil =>
      have e : b = m := hB
      rw [e]
      exact h2
    | cons a U => exact ⟨h.1, ih h.2 hB⟩
theorem chain_low {pt : Nat → Int × Int} {m : Nat} {rest : List Nat} (hp : (m :: rest).Pairwise (fun a b => lex (pt a) (pt b))) :
    ∃ c P, pushAll pt [] (m :: rest) = c :: P ∧ ChainOK pt (fun r => r ∈ m :: rest) (c :: P) ∧ Bot m (c :: P) ∧ (∀ x ∈ c :: P, x ∈ m :: rest) ∧ (m :: rest).getLast? = some c := by
  have := push_ok (pt := pt) (m := m) rest [m] [] m hp (fun x hx => hx) rfl rfl trivial rfl
  exact this
/-- the way round: from the last site pushed (the first in order) down to the first of the row (again the first in order) -/
theorem chain_ok {pt : Nat → Int × Int} {od : List Nat} {m L : Nat} (hm : od.head? = some m) (hL : od.getLast? = some L) (hp : od.Pairwise (fun a b => lex (pt a) (pt b))) :
    ∃ P U, pushAll pt [] od = L :: P ∧ chain pt od = U ++ P ∧ U.head? = some m ∧ Bot m (L :: P) ∧ Bot L U ∧ ChainOK pt (fun r => r ∈ od) (L :: P) ∧ ChainOK (npt pt) (fun r => r ∈ od) U ∧ AdjOK pt (fun r => r ∈ od) (chain pt od) ∧ (∀ x ∈ L :: P, x ∈ od) ∧ (∀ x ∈ U, x ∈ od) := by
  cases od with
  | nil => cases hm
  | cons q rest =>
    have e : q = m := by simpa using hm
    subst e
    obtain ⟨c, P, e1, h1, h2, h3, h4⟩ := chain_low hp
    have ec : c = L := by rw [hL] at h4; exact (Option.some.inj h4).symm
    subst ec
    -- the way back, seen from the other end
    have hrev : (q :: rest).reverse = c :: ((q :: rest).take ((q :: rest).length - 1)).reverse := by
      obtain ⟨ys', e⟩ := List.getLast?_eq_some_iff.mp hL
      rw [e]
      simp
    have hpr : (c :: ((q :: rest).take ((q :: rest).length - 1)).reverse).Pairwise (fun a b => lex (npt pt a) (npt pt b)) := by
      rw [← hrev, List.pairwise_reverse]
      exact List.Pairwise.imp (fun h => npt_lex.mpr h) hp
    obtain ⟨d, V, f1, g1, g2, g3, g4⟩ := chain_low hpr
    have hd : d = q := by
      rw [← hrev, List.getLast?_reverse] at g4
      exact (Option.some.inj (hm.symm.trans g4)).symm
    subst hd
    have hmem : (fun r => r ∈ c :: ((d :: rest).take ((d :: rest).length - 1)).reverse) = (fun r => r ∈ d :: rest) := by
      funext r
      rw [← hrev]
      exact propext List.mem_reverse
    rw [hmem] at g1
    have g3' : ∀ x ∈ d :: V, x ∈ d :: rest := fun x hx => by
      have := g3 x hx
      rw [← hrev] at this
      exact List.mem_reverse.mp this
    have hch : chain pt (d :: rest) = (d :: V) ++ P := by
      unfold chain
      rw [e1]
      have f2 : pushAll pt [c] ((d :: rest).take ((d :: rest).length - 1)).reverse = d :: V := by
        rw [npt_push, pushAll] at f1
        exact f1
      have := push_app (pt := pt) (m := c) (P := P) ((d :: rest).take ((d :: rest).length - 1)).reverse [c] (fun s hs b hb => by
        cases P with
        | nil => cases hb
        | cons y P =>
          have e5 : y = b := by simpa using hb
          subst e5
          refine h1.1.2.1 s ?_
          rw [List.mem_reverse] at hs
          exact List.mem_of_mem_take hs) rfl
      rw [f2] at this
      exact this
    refine ⟨P, d :: V, e1, hch, rfl, h2, g2, h1, g1, ?_, h3, g3'⟩
    rw [hch]
    exact adj_app (adj_low _ h1) _ (adj_up _ g1) g2
