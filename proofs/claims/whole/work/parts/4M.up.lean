/-! PURE: what STANDS UP, on both sides -/
def nb (g : Nat → Bool) (n : Nat) : Bool := (List.range n).all (fun q => !g q)
theorem nb_succ (g : Nat → Bool) (n : Nat) : nb g (n + 1) = (nb g n && !g n) := by
  unfold nb
  rw [List.range_succ, List.all_append]
  simp
theorem nb_congr {g g' : Nat → Bool} : ∀ n, (∀ q, q < n → g q = g' q) → nb g n = nb g' n
  | 0, _ => rfl
  | n + 1, h => by rw [nb_succ, nb_succ, nb_congr n (fun q hq => h q (by omega)), h n (by omega)]
theorem nb_false {g : Nat → Bool} {q : Nat} : ∀ n, q < n → g q = true → nb g n = false
  | 0, h, _ => absurd h (Nat.not_lt_zero _)
  | n + 1, h, e => by
    rw [nb_succ]
    by_cases hq : q = n
    · rw [← hq, e]; simp
    · rw [nb_false n (by omega) e]; rfl
def sb (S : Nat) (E : Nat → Nat) : Nat → Nat → Nat → Bool
  | 0, _, _ => false
  | f + 1, p, w => S.testBit p && nb (fun q => ((E p).testBit q && !w.testBit q) && sb S E f q (w ||| 2 ^ q)) 5
def sbW (S : Nat) (E : Nat → Nat) (p w : Nat) : Bool := sb S E (32 - w) p w
theorem w_up : ∀ w, w < 32 → ∀ q, q < 5 → w.testBit q = false → w < w ||| 2 ^ q ∧ w ||| 2 ^ q < 32 := by decide +kernel
theorem sb_fuel {S : Nat} {E : Nat → Nat} : ∀ f f' p w, w < 32 → 32 - w ≤ f → 32 - w ≤ f' → sb S E f p w = sb S E f' p w := by
  intro f
  induction f with
  | zero => intro f' p w h1 h2 _; omega
  | succ f ih =>
    intro f' p w h1 h2 h3
    obtain ⟨g, rfl⟩ : ∃ g, f' = g + 1 := ⟨f' - 1, by omega⟩
    rw [sb, sb]
    congr 1
    refine nb_congr 5 (fun q hq => ?_)
    cases hz : w.testBit q with
    | true => simp
    | false =>
      obtain ⟨h4, h5⟩ := w_up w h1 q hq hz
      rw [ih g q (w ||| 2 ^ q) h5 (by omega) (by omega)]
/-- what of q speaks against p -/
def sg (S : Nat) (E : Nat → Nat) (p w q : Nat) : Bool := ((E p).testBit q && !w.testBit q) && sbW S E q (w ||| 2 ^ q)
theorem sbW_eq {S : Nat} {E : Nat → Nat} {p w : Nat} (hw : w < 32) : sbW S E p w = (S.testBit p && nb (sg S E p w) 5) := by
  unfold sbW
  obtain ⟨f, hf⟩ : ∃ f, 32 - w = f + 1 := ⟨31 - w, by omega⟩
  rw [hf, sb]
  congr 1
  refine nb_congr 5 (fun q hq => ?_)
  rw [sg]
  cases hz : w.testBit q with
  | true => simp
  | false =>
    obtain ⟨h4, h5⟩ := w_up w hw q hq hz
    rw [sbW, sb_fuel f (32 - (w ||| 2 ^ q)) q (w ||| 2 ^ q) h5 (by omega) (Nat.le_refl _)]
theorem c_standsBeside {nc k S : Nat} {E : Nat → Nat} (hn : nc < 5) (hk : k < nc) : ∀ (f d p w : Nat) (σ : St) (Q : Int32 → St → Prop), w < 32 → 32 - w ≤ f → p < 5 → gi σ (400 + 10 * k) 0 = nI S → S < 32 → (∀ p, p < 5 → gi σ 101 p = nI (E p) ∧ E p < 32) →
    Q (nI (sbW S E p w).toNat) σ → EI (d + f + 1) (idsC nc) Y_X1_standsBeside [.ref (400 + 10 * k), .ref 101, .int (nI p), .int (nI w)] σ Q := by
  intro f
  induction f with
  | zero => intro d p w σ Q hw hf; omega
  | succ f ih =>
    intro d p w σ Q hw hf hp hS hS32 hE hQ
    refine fl_X1_standsBeside (hCase hn hk) (hBA hn (by decide) rfl) (fun P25 P60 H25 H60 => ?_)
    rw [hS, kb_sh S (by omega) p (by omega)]
    rw [sbW_eq hw] at hQ
    refine ⟨fun c => ⟨vp_in_nI hp (by decide), fun x9 e9 => ?_⟩, fun c => ?_⟩
    · rw [tn1 c, Bool.true_and] at hQ
      obtain ⟨f1, f2, f3⟩ := free_and _ (hE p hp).2 w hw
      rw [cl_ix p (by omega), (hE p hp).1, f1] at e9
      subst e9
      generalize hoo : E p &&& (31 ^^^ w) = oo at f2 f3
      have loop : ∀ m q, 5 - q = m → q ≤ 5 → nb (sg S E p w) q = true → P25 (nI oo) (nI q) σ := by
        intro m
        induction m with
        | zero =>
          intro q q1 q2 q3
          have : q = 5 := by omega
          subst this
          rw [q3] at hQ
          exact H25 _ _ _ ⟨fun _ => hQ, fun z => absurd (nI_le (Nat.le_refl 5) (by decide)) z⟩
        | succ m ihm =>
          intro q q1 q2 q3
          have hq : q < 5 := by omega
          have next : sg S E p w q = false → P60 (nI oo) (nI q) σ := fun hg => H60 _ _ _ (fun x ex => by
            rw [ex, ← nI_succ]
            exact ihm (q + 1) (by omega) (by omega) (by rw [nb_succ, q3, hg]; rfl))
          refine H25 _ _ _ ⟨fun z => absurd ((nI_leI (a := 5) (by decide) (by omega)).mp z) (by omega), fun _ => ⟨fun z => next ?_, fun z => ?_⟩⟩
          · rw [hs_bit oo f2 q hq, f3 q hq] at z
            rw [sg, Bool.eq_false_iff.mpr z, Bool.false_and]
          · rw [hs_bit oo f2 q hq, f3 q hq] at z
            have hwq : w.testBit q = false := by
              cases hz : w.testBit q
              · rfl
              · rw [hz] at z; simp at z
            obtain ⟨u1, u2⟩ := w_up w hw q hq hwq
            rw [(lk_or w hw q hq).1]
            refine ih d q (w ||| 2 ^ q) σ _ u2 (by omega) hq hS hS32 hE ⟨fun c2 => next ?_, fun c2 => ?_⟩
            · rw [sg, tn0 c2, Bool.and_false]
            · rw [nb_false 5 hq (by rw [sg, z, tn1 c2]; rfl)] at hQ
              exact hQ
      exact loop 5 0 rfl (by decide) rfl
    · rw [tn0 c, Bool.false_and] at hQ
      exact hQ
theorem c_standsUp {d nc k p S : Nat} {E : Nat → Nat} {σ : St} {Q : Int32 → St → Prop} (hn : nc < 5) (hk : k < nc) (hp : p < 5) (hS : gi σ (400 + 10 * k) 0 = nI S) (hS32 : S < 32) (hE : ∀ p, p < 5 → gi σ 101 p = nI (E p) ∧ E p < 32)
    (h : Q (nI (sbW S E p (2 ^ p)).toNat) σ) : EI (d + 34) (idsC nc) Y_X1_standsUp [.ref (400 + 10 * k), .ref 101, .int (nI p)] σ Q := by
  refine fl_X1_standsUp (hCase hn hk) (hBA hn (by decide) rfl) ?_
  have e1 : ((1 : Int32) <<< (nI p &&& 31)) = nI (2 ^ p) ∧ 2 ^ p < 32 := (by decide +kernel : ∀ p, p < 5 → ((1 : Int32) <<< (nI p &&& 31)) = nI (2 ^ p) ∧ 2 ^ p < 32) p hp
  rw [e1.1]
  refine c_standsBeside hn hk 32 d p (2 ^ p) σ _ e1.2 (Nat.sub_le _ _) hp hS hS32 hE ⟨?_, h⟩
  cases sbW S E p (2 ^ p)
  · exact Or.inl rfl
  · exact Or.inr rfl
/-- only the table of the reference is written -/
def eq7 (τ τ' : St) : Prop := (∀ o, o ≠ 7 → gi τ' o = gi τ o) ∧ ∀ o, gl τ' o = gl τ o
theorem eq7.rf (τ : St) : eq7 τ τ := ⟨fun _ _ => rfl, fun _ => rfl⟩
theorem eq7.put {τ τ' : St} (h : eq7 τ τ') (k : Nat) (v : Int32) : eq7 τ (si τ' 7 k v) := ⟨fun o ho => by rw [gi_si_o _ _ _ ho]; exact h.1 o ho, fun o => by rw [gl_si_o]; exact h.2 o⟩
def uT (S : Nat) (E : Nat → Nat) (w p : Nat) : Bool := (w.testBit p && S.testBit p) && nb (sg S E p w) 5
/-- the table as far as it is made: all of the ways from w0 on, of way w0 - 1 the POINTS below p0 -/
def upT (S : Nat) (E : Nat → Nat) (τ : St) (w0 p0 : Nat) : Prop := ∀ w p, 0 < w → w < 32 → p < 5 → (w0 ≤ w ∨ w + 1 = w0 ∧ p < p0) → gi τ 7 (6 * w + p) = nI (uT S E w p).toNat
theorem has_b : ∀ w, w < 32 → ∀ p, p < 5 → bI ((nI w >>> (nI p &&& 31)) &&& 1 = 1) = nI (w.testBit p).toNat := by decide +kernel
theorem or_bit_self : ∀ w, w < 32 → ∀ q, q < 5 → (w ||| 2 ^ q).testBit q = true := by decide +kernel
theorem uT_up {S : Nat} {E : Nat → Nat} {w q : Nat} (hw : w < 32) (hq : q < 5) (hz : w.testBit q = false) : uT S E (w ||| 2 ^ q) q = sbW S E q (w ||| 2 ^ q) := by
  rw [uT, sbW_eq (w_up w hw q hq hz).2, or_bit_self w hw q hq, Bool.true_and]
theorem r_findUp {d k S : Nat} {E : Nat → Nat} {τ : St} {Q : St → Prop} (hk : k < 4) (hS : gi τ 3 k = nI S) (hS32 : S < 32) (hE : ∀ p, p < 5 → gi τ 1 p = nI (E p) ∧ E p < 32)
    (h : ∀ τ', eq7 τ τ' → (∀ w p, 0 < w → w < 32 → p < 5 → gi τ' 7 (6 * w + p) = nI (uT S E w p).toNat) → Q τ') : EV (d + 2) idsR Y_X7_findUp [.ref 0, .int (nI k)] τ Q := by
  refine fl_X7_findUp hR (fun P3 P9 P41 P42 P47 P103 P107 P108 H3 H9 H41 H42 H47 H103 H107 H108 => ?_)
  simp only [rf0] at H9 H47
  have inner : ∀ m w p q τ1, 5 - q = m → q ≤ 5 → 0 < w → w < 32 → p < 5 → eq7 τ τ1 → upT S E τ1 (w + 1) p → (∀ τ2, eq7 τ τ2 → upT S E τ2 (w + 1) (p + 1) → P9 (nI w) (nI (p + 1)) τ2) →
      P47 (nI w) (nI p) (nI ((w.testBit p && S.testBit p) && nb (sg S E p w) q).toNat) (nI q) τ1 := by
    intro m
    induction m with
    | zero =>
      intro w p q τ1 q1 q2 w1 w2 hp hE7 hU hx
      have : q = 5 := by omega
      subst this
      refine H47 _ _ _ _ _ ⟨fun _ => ?_, fun z => absurd (nI_le (Nat.le_refl 5) (by decide)) z⟩
      rw [k6]
      refine ⟨vp_in_nI (by omega) (by decide), fun s es x14 e14 => ?_⟩
      rw [cl_ix _ (by omega), nar_b] at es
      rw [e14, ← nI_succ]
      refine hx s (by rw [es]; exact hE7.put _ _) (fun w' p' a1 a2 a3 a4 => ?_)
      rw [es, gi_si]
      by_cases he : w' = w ∧ p' = p
      · obtain ⟨rfl, rfl⟩ := he
        rw [if_pos ⟨rfl, rfl⟩]; rfl
      · rw [if_neg (by omega)]
        exact hU w' p' a1 a2 a3 (by omega)
    | succ m ih =>
      intro w p q τ1 q1 q2 w1 w2 hp hE7 hU hx
      have hq : q < 5 := by omega
      refine H47 _ _ _ _ _ ⟨fun z => absurd ((nI_leI (a := 5) (by decide) (by omega)).mp z) (by omega), fun _ => ?_⟩
      have no : ((w.testBit p && S.testBit p) && nb (sg S E p w) (q + 1)) = false → P107 (nI w) (nI p) (nI q) τ1 := by
        intro hb
        refine H107 _ _ _ _ (H108 _ _ _ _ _ (fun x ex => ?_))
        have := ih w p (q + 1) τ1 (by omega) (by omega) w1 w2 hp hE7 hU hx
        rw [hb] at this
        rw [ex, ← nI_succ]
        exact this
      have yes : ((w.testBit p && S.testBit p) && nb (sg S E p w) (q + 1)) = true → P103 (nI w) (nI p) (nI q) τ1 := by
        intro hb
        refine H103 _ _ _ _ (H108 _ _ _ _ _ (fun x ex => ?_))
        have := ih w p (q + 1) τ1 (by omega) (by omega) w1 w2 hp hE7 hU hx
        rw [hb] at this
        rw [ex, ← nI_succ]
        exact this
      refine ⟨fun z => no ?_, fun z => ⟨vp_in_nI (by omega) (by decide), ?_⟩⟩
      · have := tn0 z
        rw [nb_succ, ← Bool.and_assoc, this]; rfl
      · have hb := tn1 z
        rw [cl_ix p (by omega), hE7.1 1 (by decide), (hE p hp).1]
        refine kR_has ?_
        rw [has_b _ (hE p hp).2 q hq]
        refine ⟨fun c => yes ?_, fun c => kR_has ?_⟩
        · rw [nb_succ, ← Bool.and_assoc, hb, sg, tn0 c]; rfl
        · rw [has_b w w2 q hq]
          refine ⟨fun c2 => yes ?_, fun c2 => ?_⟩
          · rw [nb_succ, ← Bool.and_assoc, hb, sg, tn1 c2]; simp
          · have hwq := tn0 c2
            obtain ⟨u1, u2⟩ := w_up w w2 q hq hwq
            rw [(lk_or w w2 q hq).1, k6, cl_ix _ (by omega), hU _ q (by omega) u2 hq (by omega), uT_up w2 hq hwq]
            refine ⟨vp_in_nI (by omega) (by decide), fun c3 => no ?_, fun c3 => yes ?_⟩
            · rw [nb_succ, ← Bool.and_assoc, hb, sg, tn1 c, hwq, tn1 c3]; rfl
            · rw [nb_succ, ← Bool.and_assoc, hb, sg, tn0 c3]; simp
  have pts : ∀ m w p τ1, 5 - p = m → p ≤ 5 → 0 < w → w < 32 → eq7 τ τ1 → upT S E τ1 (w + 1) p → (∀ τ2, eq7 τ τ2 → upT S E τ2 w 0 → P3 (nI (w - 1)) τ2) → P9 (nI w) (nI p) τ1 := by
    intro m
    induction m with
    | zero =>
      intro w p τ1 q1 q2 w1 w2 hE7 hU hx
      have : p = 5 := by omega
      subst this
      refine H9 _ _ _ ⟨fun _ x3 e3 => ?_, fun z => absurd (nI_le (Nat.le_refl 5) (by decide)) z⟩
      have e : x3 = nI (w - 1) := by
        rw [e3, ← Int32.sub_eq_add_neg, show w = (w - 1) + 1 by omega, nI_pred]
        rfl
      rw [e]
      exact hx τ1 hE7 (fun w' p' a1 a2 a3 a4 => hU w' p' a1 a2 a3 (by omega))
    | succ m ih =>
      intro w p τ1 q1 q2 w1 w2 hE7 hU hx
      have hp : p < 5 := by omega
      have fin : ∀ b : Bool, b = (w.testBit p && S.testBit p) → P42 (nI w) (nI p) (nI b.toNat) τ1 := by
        rintro b rfl
        refine H42 _ _ _ _ ?_
        have := inner 5 w p 0 τ1 rfl (by decide) w1 w2 hp hE7 hU (fun τ2 j1 j2 => ih w (p + 1) τ2 (by omega) (by omega) w1 w2 j1 j2 hx)
        rw [show nb (sg S E p w) 0 = true from rfl, Bool.and_true] at this
        exact this
      refine H9 _ _ _ ⟨fun z => absurd ((nI_leI (a := 5) (by decide) (by omega)).mp z) (by omega), fun _ => kR_has ?_⟩
      rw [has_b w w2 p hp]
      refine ⟨fun c => H41 _ _ _ (fin false (by rw [tn0 c]; rfl)), fun c => ⟨vp_in_nI (by omega) (by decide), ?_⟩⟩
      rw [cl_ix k (by omega), hE7.1 3 (by decide), hS]
      refine kR_has ?_
      rw [has_b S hS32 p hp]
      exact ⟨fun c2 => H41 _ _ _ (fin false (by rw [tn0 c2, Bool.and_false])), fun c2 => fin true (by rw [tn1 c, tn1 c2]; rfl)⟩
  have ways : ∀ w τ1, w < 32 → eq7 τ τ1 → upT S E τ1 (w + 1) 0 → P3 (nI w) τ1 := by
    intro w
    induction w with
    | zero =>
      intro τ1 _ hE7 hU
      exact H3 _ _ ⟨fun _ => h τ1 hE7 (fun w p a1 a2 a3 => hU w p a1 a2 a3 (by omega)), fun z => absurd (by decide) z⟩
    | succ w ih =>
      intro τ1 hw hE7 hU
      refine H3 _ _ ⟨fun z => absurd z (nI_nle (by omega) (by omega)), fun _ => ?_⟩
      exact pts 5 (w + 1) 0 τ1 rfl (by decide) (by omega) hw hE7 hU (fun τ2 j1 j2 => ih τ2 (by omega) j1 j2)
  exact ways 31 τ (by decide) (eq7.rf τ) (fun w p _ a2 _ a4 => by omega)
theorem uT_one {S : Nat} {E : Nat → Nat} {p : Nat} (hp : p < 5) : uT S E (2 ^ p) p = sbW S E p (2 ^ p) := by
  have e : (2 ^ p < 32) ∧ (2 ^ p).testBit p = true := (by decide +kernel : ∀ p, p < 5 → 2 ^ p < 32 ∧ (2 ^ p).testBit p = true) p hp
  rw [uT, sbW_eq e.1, e.2, Bool.true_and]
